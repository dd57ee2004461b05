/-! ===== splitting on conditions ===== -/
theorem bz_t : bz true = iz 1 := rfl
theorem bz_f : bz false = iz 0 := rfl
theorem bz_c {b : Bool} {A B : Prop} (h1 : b = true → A) (h2 : b = false → B) : (¬ bz b = iz 0 → A) ∧ (bz b = iz 0 → B) := by
  cases b with
  | true => exact ⟨fun _ => h1 rfl, fun h => absurd h (by decide)⟩
  | false => exact ⟨fun h => absurd rfl h, fun _ => h2 rfl⟩
theorem bz_d {b : Bool} {A B : Prop} (h1 : b = true → A) (h2 : b = false → B) : (bz b = iz 0 → B) ∧ (¬ bz b = iz 0 → A) := ⟨(bz_c h1 h2).2, (bz_c h1 h2).1⟩
theorem cle {a b : Int} {A B : Prop} (hr : (-2147483648 ≤ a ∧ a < 2147483648) ∧ -2147483648 ≤ b ∧ b < 2147483648) (h1 : a ≤ b → A) (h2 : b < a → B) : (iz a ≤ iz b → A) ∧ (¬ iz a ≤ iz b → B) := by
  rw [iz_le hr]; exact ⟨h1, fun h => h2 (by omega)⟩
theorem clt {a b : Int} {A B : Prop} (hr : (-2147483648 ≤ a ∧ a < 2147483648) ∧ -2147483648 ≤ b ∧ b < 2147483648) (h1 : a < b → A) (h2 : b ≤ a → B) : (iz a < iz b → A) ∧ (¬ iz a < iz b → B) := by
  rw [iz_lt hr]; exact ⟨h1, fun h => h2 (by omega)⟩
theorem ceq {a b : Int} {A B : Prop} (hr : (-2147483648 ≤ a ∧ a < 2147483648) ∧ -2147483648 ≤ b ∧ b < 2147483648) (h1 : a = b → A) (h2 : ¬ a = b → B) : (iz a = iz b → A) ∧ (¬ iz a = iz b → B) := by
  rw [iz_eq hr]; exact ⟨h1, h2⟩
theorem cne {a b : Int} {A B : Prop} (hr : (-2147483648 ≤ a ∧ a < 2147483648) ∧ -2147483648 ≤ b ∧ b < 2147483648) (h1 : ¬ a = b → A) (h2 : a = b → B) : (¬ iz a = iz b → A) ∧ (iz a = iz b → B) := by
  rw [iz_eq hr]; exact ⟨h1, h2⟩
theorem i_ex (x : Int32) : ∃ z : Int, (-2147483648 ≤ z ∧ z < 2147483648) ∧ x = iz z := ⟨x.toInt, i_rng x, (iz_of x).symm⟩
theorem cast1 (k : Nat) : (k : Int) + 1 = ((k + 1 : Nat) : Int) := rfl
theorem iz_s (k : Nat) : iz (k : Int) + iz 1 = iz ((k + 1 : Nat) : Int) := by rw [iz_add]; rfl
/-! ===== the reference: beats and news ===== -/
def MB (τ : SS) (b : BT) : Prop := gI τ 100 1 = iz (bN b) ∧ (∀ k, gA τ 101 k = iz (bD b k)) ∧ gI τ 100 2 = iz (bP b) ∧ gI τ 100 3 = iz (bW b) ∧ gI τ 100 4 = iz (bS b)
def MN (τ : SS) (b : BT) : Prop := gI τ 100 7 = iz (nc b) ∧ ∀ i, i < nc b → gA τ 102 i = iz (nb b i) ∧ gA τ 103 i = iz (nt b i)
/-- what lasts is the same: only what is worked out anew at each question may differ -/
def pe (τ τ' : SS) : Prop := (∀ k, (k = 7 ∨ k = 15 ∨ k = 16 ∨ k = 17 ∨ k = 18) ∨ gI τ' 100 k = gI τ 100 k) ∧ (∀ p, (p = 102 ∨ p = 103 ∨ p = 108 ∨ p = 109) ∨ gA τ' p = gA τ p) ∧ τ'.2.2 = τ.2.2
theorem pe_r (τ : SS) : pe τ τ := ⟨fun _ => Or.inr rfl, fun _ => Or.inr rfl, rfl⟩
theorem pe_t {τ τ' τ'' : SS} (h : pe τ τ') (h2 : pe τ' τ'') : pe τ τ'' :=
  ⟨fun k => (h2.1 k).elim Or.inl (fun e => (h.1 k).elim Or.inl (fun e2 => Or.inr (e.trans e2))), fun p => (h2.2.1 p).elim Or.inl (fun e => (h.2.1 p).elim Or.inl (fun e2 => Or.inr (e.trans e2))), h2.2.2.trans h.2.2⟩
theorem pe_I {τ τ' : SS} (h : pe τ τ') (k : Nat) (hk : ¬ (k = 7 ∨ k = 15 ∨ k = 16 ∨ k = 17 ∨ k = 18)) : gI τ' 100 k = gI τ 100 k := (h.1 k).resolve_left hk
theorem pe_A {τ τ' : SS} (h : pe τ τ') (p : Nat) (hp : ¬ (p = 102 ∨ p = 103 ∨ p = 108 ∨ p = 109)) : gA τ' p = gA τ p := (h.2.1 p).resolve_left hp
theorem MB_pe {τ τ' : SS} {b : BT} (h : pe τ τ') (hM : MB τ b) : MB τ' b := by
  obtain ⟨h1, h2, h3, h4, h5⟩ := hM
  exact ⟨(pe_I h 1 (by decide)).trans h1, fun k => by rw [pe_A h 101 (by decide)]; exact h2 k, (pe_I h 2 (by decide)).trans h3, (pe_I h 3 (by decide)).trans h4, (pe_I h 4 (by decide)).trans h5⟩
theorem m_in {τ : SS} {K : SS → Int32 → Prop} {z l u : Int} (hz : -2147483648 ≤ z ∧ z < 2147483648) (hl : (-2147483648 ≤ l ∧ l < 2147483648) ∧ -2147483648 ≤ u ∧ u < 2147483648) (h : K τ (bz (decide (l ≤ z ∧ z ≤ u)))) : wp_X6_in τ (iz z) (iz l) (iz u) K := by
  unfold wp_X6_in
  simp only [ize]
  refine clt (by omega) (fun e => ?_) (fun e => clt (by omega) (fun e2 => ?_) (fun e2 => ?_))
  · rw [show decide (l ≤ z ∧ z ≤ u) = false by simp; omega, bz_f] at h; exact h
  · rw [show decide (l ≤ z ∧ z ≤ u) = false by simp; omega, bz_f] at h; exact h
  · rw [show decide (l ≤ z ∧ z ≤ u) = true by simp; omega, bz_t] at h; exact h
theorem m_isLost {τ : SS} {b : BT} {K : SS → Int32 → Prop} (hM : MB τ b) (hB : BB b) {k : Nat} (hk : k < 40) (h : K τ (bz (lo b k))) : wp_X6_isLost τ (iz k) K := by
  obtain ⟨h1, h2, h3, h4, h5⟩ := hM
  have r := kp_rng hB hk
  have r1 := hB.1.2 k
  have r2 := hB.2.2.1
  unfold wp_X6_isLost
  simp only [ize, iz_cl (show k < 2147483648 by omega), h2, h3, h5, iz_mul]
  refine ⟨iz_in (by omega), ceq (by omega) (fun e => ?_) (fun e => ceq (by omega) (fun e2 => ?_) (fun e2 => clt (by omega) (fun e3 => ?_) (fun e3 => ?_)))⟩
  · rw [show lo b k = true by simp [lo, e], bz_t] at h; exact h
  · rw [show lo b k = false by simp [lo, e, e2], bz_f] at h; exact h
  · rw [show lo b k = false by simp only [lo, Bool.or_eq_false_iff, Bool.and_eq_false_iff, decide_eq_false_iff_not]; exact ⟨e, Or.inr (by omega)⟩, bz_f] at h; exact h
  · rw [show lo b k = true by simp only [lo, Bool.or_eq_true, Bool.and_eq_true, decide_eq_true_eq]; exact Or.inr ⟨e2, e3⟩, bz_t] at h; exact h
theorem m_timeOf {τ : SS} {b : BT} {K : SS → Int32 → Prop} (hM : MB τ b) (hB : BB b) {k : Nat} (hk : k < 40) (h : K τ (iz (tm b k))) : wp_X6_timeOf τ (iz k) K := by
  unfold wp_X6_timeOf
  simp only [ize]
  refine m_isLost hM hB hk (bz_d (fun e => ?_) (fun e => ⟨iz_in (by omega), ?_⟩))
  · rw [tm_t e] at h; exact h
  · rw [hM.2.2.1, iz_cl (by omega), hM.2.1, iz_mul, iz_add, ← tm_f e]; exact h
theorem m_isNews {τ : SS} {b : BT} {K : SS → Int32 → Prop} (hM : MB τ b) (hB : BB b) {k : Nat} (hk : k < bN b) (h : K τ (bz (nw b k))) : wp_X6_isNews τ (iz k) K := by
  have hn := hB.1.1
  have key : ∀ x, x = bz (nwU b k (k + 1)) → ∃ n, fx4 (lb_X6_isNews_18 K) n τ (iz k) x (iz ((k + 1 : Nat) : Int)) := by
    intro x hx
    refine fx4_i (fun σ x1 x2 x3 => σ = τ ∧ x1 = iz k ∧ ∃ q : Nat, (k < q ∧ q ≤ bN b) ∧ x2 = bz (nwU b k q) ∧ x3 = iz q) (fun _ _ _ x3 => 50 - x3.toNatClampNeg) ?_ _ _ _ _ ⟨rfl, rfl, k + 1, ⟨by omega, by omega⟩, hx, rfl⟩
    rintro L σ x1 x2 x3 ⟨rfl, rfl, q, hq, rfl, rfl⟩ hL
    have step : ∀ y, y = bz (nwU b k (q + 1)) → q < bN b → L σ (iz k) y (iz q + iz 1) := by
      intro y hy hqn
      rw [iz_s]
      refine hL _ _ _ _ ⟨rfl, rfl, q + 1, ⟨by omega, by omega⟩, hy, rfl⟩ ?_
      show 50 - (iz ((q + 1 : Nat) : Int)).toNatClampNeg < 50 - (iz (q : Int)).toNatClampNeg
      rw [iz_cl (by omega), iz_cl (by omega)]; omega
    unfold lb_X6_isNews_18
    simp only [ize, hM.1]
    refine cle (by omega) (fun e => ?_) (fun e => ?_)
    · have e3 : q = bN b := by omega
      subst e3
      exact ⟨bz_or _, h⟩
    · refine bz_d (fun e2 => ?_) (fun e2 => ⟨bz_or _, ?_⟩)
      · refine m_isLost hM hB (by omega) (bz_c (fun e3 => ?_) (fun e3 => ?_))
        · exact step _ (by rw [nwU_t e2 (Or.inl e3), bz_t]) (by omega)
        · refine m_timeOf hM hB (by omega) (m_timeOf hM hB (by omega) ?_)
          have r1 := tm_rng hB (k := q) (by omega)
          have r2 := tm_rng hB (k := k) (by omega)
          refine clt (by omega) (fun e4 => ?_) (fun e4 => ?_)
          · exact step _ (by rw [nwU_f hq.1 e3 e4, bz_f]) (by omega)
          · exact step _ (by rw [nwU_t e2 (Or.inr e4), bz_t]) (by omega)
      · rw [e2]; rw [show nw b k = false from nwU_less hq.2 e2] at h; exact h
  unfold wp_X6_isNews
  simp only [ize]
  refine m_isLost hM hB (by omega) (bz_c (fun e => ?_) (fun e => ?_))
  · rw [iz_s]; exact key _ (by rw [nwU_0, e]; rfl)
  · rw [iz_s]; exact key _ (by rw [nwU_0, e]; rfl)
theorem m_findsNews {τ : SS} {b : BT} {K : SS → Prop} (hM : MB τ b) (hB : BB b) (h : ∀ τ', pe τ τ' → MN τ' b → (∀ k, k ≠ 7 → gI τ' 100 k = gI τ 100 k) → K τ') : wp_X6_findsNews τ K := by
  have hn := hB.1.1
  unfold wp_X6_findsNews
  simp only [ize]
  refine fx2_i (fun σ x1 => pe τ σ ∧ (∀ k, k ≠ 7 → gI σ 100 k = gI τ 100 k) ∧ ∃ k : Nat, k ≤ bN b ∧ x1 = iz k ∧ gI σ 100 7 = iz (fb_ct (nw b) k) ∧ ∀ i, i < fb_ct (nw b) k → gA σ 102 i = iz (nb b i) ∧ gA σ 103 i = iz (nt b i)) (fun _ x1 => 50 - x1.toNatClampNeg) ?_ _ _ ⟨⟨fun k => ?_, fun p => Or.inr rfl, rfl⟩, fun k hk => gI_sI_k _ _ _ _ hk, 0, Nat.zero_le _, rfl, gI_sI_s _ _ _ _, fun i hi => absurd hi (Nat.not_lt_zero i)⟩
  · rintro L σ x1 ⟨hp, hI, k, hk, rfl, hc, ha⟩ hL
    have hM2 := MB_pe hp hM
    have hck := fb_ct_le (nw b) k
    unfold lb_X6_findsNews_7
    simp only [ize, hM2.1]
    refine cle (by omega) (fun e => ?_) (fun e => ?_)
    · have e3 : k = bN b := by omega
      subst e3
      exact h σ hp ⟨hc, ha⟩ hI
    · have hk2 : k < bN b := by omega
      have hmu : 50 - (iz (k : Int) + iz 1).toNatClampNeg < 50 - (iz (k : Int)).toNatClampNeg := by
        rw [iz_s, iz_cl (by omega), iz_cl (by omega)]; omega
      refine m_isNews hM2 hB hk2 (bz_d (fun e2 => ?_) (fun e2 => ?_))
      · simp only [hc]
        rw [iz_cl (by omega)]
        refine ⟨iz_in (by omega), ?_⟩
        have hp3 : pe τ (sA σ 102 (fb_ct (nw b) k) (iz k)) := pe_t hp ⟨fun k => Or.inr rfl, fun p => (Decidable.em (p = 102)).elim (fun q => Or.inl (Or.inl q)) (fun q => Or.inr (gA_sA_p _ _ _ _ q)), rfl⟩
        refine m_timeOf (MB_pe hp3 hM) hB (by omega) ⟨iz_in (by omega), ?_⟩
        refine hL _ _ ⟨pe_t hp3 ⟨fun k => ?_, fun p => ?_, rfl⟩, fun k hk => ?_, k + 1, by omega, iz_s k, ?_, fun i hi => ?_⟩ hmu
        · by_cases q : k = 7
          · exact Or.inl (Or.inl q)
          · exact Or.inr (gI_sI_k _ _ _ _ q)
        · by_cases q : p = 103
          · exact Or.inl (Or.inr (Or.inl q))
          · exact Or.inr (gA_sA_p _ _ _ _ q)
        · rw [gI_sI_k _ _ _ _ hk]; exact hI k hk
        · rw [gI_sI_s, gI_sA, hc, iz_s, fb_ct_succ, e2]; rfl
        · rw [fb_ct_succ, e2] at hi
          simp only [gA_sI]
          rw [gA_sA_p _ _ _ _ (by decide : (102 : Nat) ≠ 103), gA_sA_s, gA_sA_s, gA_sA_p _ _ _ _ (by decide : (103 : Nat) ≠ 102)]
          by_cases q : i = fb_ct (nw b) k
          · subst q
            rw [upd_s, upd_s, nt, nb_of hk2 e2]; exact ⟨rfl, rfl⟩
          · rw [upd_n _ _ q, upd_n _ _ q]
            exact ha i (by simp only [if_true] at hi; omega)
      · refine hL _ _ ⟨hp, hI, k + 1, by omega, iz_s k, ?_, fun i hi => ?_⟩ hmu
        · rw [hc, fb_ct_succ, e2]; rfl
        · rw [fb_ct_succ, e2] at hi
          exact ha i (by simpa using hi)
  · by_cases q : k = 7
    · exact Or.inl (Or.inl q)
    · exact Or.inr (gI_sI_k _ _ _ _ q)
