/-! ===== the class: arrivals ===== -/
/-- the same at all places but those from l on below u -/
def ag (l u : Nat) (σ σ' : SS) : Prop := (∀ p, (l ≤ p ∧ p < u) ∨ ((∀ k, gI σ' p k = gI σ p k) ∧ gA σ' p = gA σ p)) ∧ σ'.2.2 = σ.2.2
theorem ag_r {l u : Nat} (σ : SS) : ag l u σ σ := ⟨fun _ => Or.inr ⟨fun _ => rfl, rfl⟩, rfl⟩
theorem ag_t {l u : Nat} {σ σ' σ'' : SS} (h : ag l u σ σ') (h2 : ag l u σ' σ'') : ag l u σ σ'' :=
  ⟨fun p => (h2.1 p).elim Or.inl (fun e => (h.1 p).elim Or.inl (fun e2 => Or.inr ⟨fun k => (e.1 k).trans (e2.1 k), e.2.trans e2.2⟩)), h2.2.trans h.2⟩
theorem ag_w {l u l' u' : Nat} {σ σ' : SS} (h : ag l u σ σ') (h1 : l' ≤ l) (h2 : u ≤ u') : ag l' u' σ σ' :=
  ⟨fun p => (h.1 p).elim (fun e => Or.inl ⟨by omega, by omega⟩) Or.inr, h.2⟩
theorem ag_I {l u : Nat} {σ σ' : SS} (h : ag l u σ σ') {p : Nat} (hp : p < l ∨ u ≤ p) (k : Nat) : gI σ' p k = gI σ p k := ((h.1 p).resolve_left (by omega)).1 k
theorem ag_A {l u : Nat} {σ σ' : SS} (h : ag l u σ σ') {p : Nat} (hp : p < l ∨ u ≤ p) : gA σ' p = gA σ p := ((h.1 p).resolve_left (by omega)).2
theorem ag_sI {l u : Nat} {σ : SS} {p k : Nat} {v : Int32} (h : l ≤ p ∧ p < u) : ag l u σ (sI σ p k v) :=
  ⟨fun q => by
    by_cases e : q = p
    · left; omega
    · exact Or.inr ⟨fun j => gI_sI_p _ _ _ _ e, rfl⟩, rfl⟩
theorem ag_sA {l u : Nat} {σ : SS} {p k : Nat} {v : Int32} (h : l ≤ p ∧ p < u) : ag l u σ (sA σ p k v) :=
  ⟨fun q => by
    by_cases e : q = p
    · left; omega
    · exact Or.inr ⟨fun j => rfl, gA_sA_p _ _ _ _ e⟩, rfl⟩
theorem if_iz {a b c d : Int} (hr : (-2147483648 ≤ a ∧ a < 2147483648) ∧ -2147483648 ≤ b ∧ b < 2147483648) : (if iz a < iz b then iz c else iz d) = iz (if a < b then c else d) := by
  simp only [iz_lt hr]; split <;> rfl
/-- arrivals at place a hold what is meant -/
def CA (σ : SS) (a : Nat) (b : BT) : Prop := (gI σ a 7 = iz (nc b) ∧ gI σ a 8 = iz (bP b) ∧ gI σ a 9 = iz (bW b)) ∧ (∀ k, k < bN b → gA σ (a + 1) k = iz (tm b k) ∧ gA σ (a + 2) k = iz (ni b k)) ∧ ∀ i, i < nc b → gA σ (a + 3) i = iz (nb b i) ∧ gA σ (a + 4) i = iz (nt b i) ∧ gA σ (a + 5) i = iz (ab b i) ∧ gA σ (a + 6) i = iz (bl b i) ∧ gA σ (a + 7) i = iz (up (ab b i) (bl b i))
theorem CA_ag {l u : Nat} {σ σ' : SS} {a : Nat} {b : BT} (h : ag l u σ σ') (ha : a + 8 ≤ l ∨ u ≤ a) (hC : CA σ a b) : CA σ' a b := by
  obtain ⟨h1, h2, h3⟩ := hC
  unfold CA
  rw [ag_I h (by omega), ag_I h (by omega), ag_I h (by omega), ag_A h (by omega), ag_A h (by omega), ag_A h (by omega), ag_A h (by omega), ag_A h (by omega), ag_A h (by omega), ag_A h (by omega)]
  exact ⟨h1, h2, h3⟩
theorem c_numberNews {σ : SS} {a : Nat} {b : BT} {K : SS → Prop} (hB : BB b) (h0 : ∀ k, k < bN b → gA σ (a + 1) k = iz (tm b k) ∧ gA σ (a + 2) k = iz (if nw b k then (k : Int) else -1))
    (h : ∀ σ', ag a (a + 8) σ σ' → (∀ k, k ≠ 7 → gI σ' a k = gI σ a k) → gI σ' a 7 = iz (nc b) → (∀ k, k < bN b → gA σ' (a + 1) k = iz (tm b k) ∧ gA σ' (a + 2) k = iz (ni b k)) → (∀ i, i < nc b → gA σ' (a + 3) i = iz (nb b i) ∧ gA σ' (a + 4) i = iz (nt b i)) → K σ') : wp_X0_numberNews σ a (iz (bN b)) K := by
  have hn := hB.1.1
  unfold wp_X0_numberNews
  simp only [ize]
  refine fx3_i (fun σ1 x1 x2 => ag a (a + 8) σ σ1 ∧ (∀ k, k ≠ 7 → gI σ1 a k = gI σ a k) ∧ x1 = iz (bN b) ∧ ∃ k : Nat, k ≤ bN b ∧ x2 = iz k ∧ gI σ1 a 7 = iz (fb_ct (nw b) k) ∧ (∀ j, j < bN b → gA σ1 (a + 1) j = iz (tm b j) ∧ gA σ1 (a + 2) j = iz (if j < k then ni b j else if nw b j then (j : Int) else -1)) ∧ ∀ i, i < fb_ct (nw b) k → gA σ1 (a + 3) i = iz (nb b i) ∧ gA σ1 (a + 4) i = iz (nt b i)) (fun _ _ x2 => 50 - x2.toNatClampNeg) ?_ _ _ _ ⟨ag_sI (by omega), fun k hk => gI_sI_k _ _ _ _ hk, rfl, 0, Nat.zero_le _, rfl, gI_sI_s _ _ _ _, fun j hj => by rw [gA_sI, gA_sI]; simpa using h0 j hj, fun i hi => absurd hi (Nat.not_lt_zero i)⟩
  rintro L σ1 x1 x2 ⟨hp, hI, rfl, k, hk, rfl, hc, hj, ha⟩ hL
  have hck := fb_ct_le (nw b) k
  unfold lb_X0_numberNews_7
  simp only [ize]
  refine cle (by omega) (fun e => ?_) (fun e => ?_)
  · have e3 : k = bN b := by omega
    subst e3
    exact h σ1 hp hI hc (fun j hj2 => ⟨(hj j hj2).1, by rw [(hj j hj2).2, if_pos hj2]⟩) ha
  · have hk2 : k < bN b := by omega
    have hmu : 50 - (iz (k : Int) + iz 1).toNatClampNeg < 50 - (iz (k : Int)).toNatClampNeg := by
      rw [iz_s, iz_cl (by omega), iz_cl (by omega)]; omega
    rw [hc, iz_cl (show k < 2147483648 by omega), iz_cl (show fb_ct (nw b) k < 2147483648 by omega), (hj k hk2).2, if_neg (by omega)]
    refine ⟨iz_in (by omega), ?_⟩
    cases hw : nw b k with
    | false =>
      refine ceq (by simp) (fun _ => ?_) (fun e2 => absurd (by simp) e2)
      refine hL _ _ _ ⟨hp, hI, rfl, k + 1, by omega, iz_s k, by rw [hc, fb_ct_succ, hw]; rfl, fun j hj2 => ⟨(hj j hj2).1, ?_⟩, fun i hi => ha i (by rw [fb_ct_succ, hw] at hi; simpa using hi)⟩ hmu
      rw [(hj j hj2).2]
      congr 1
      by_cases q : j = k
      · subst q; rw [if_neg (show ¬ j < j by omega), if_pos (show j < j + 1 by omega)]; simp [ni, hw]
      · by_cases q2 : j < k
        · rw [if_pos q2, if_pos (show j < k + 1 by omega)]
        · rw [if_neg q2, if_neg (show ¬ j < k + 1 by omega)]
    | true =>
      refine ceq (by simp; omega) (fun e2 => absurd e2 (by simp)) (fun _ => ?_)
      refine ⟨iz_in (by omega), iz_in (by omega), iz_in (by omega), iz_in (by omega), ?_⟩
      rw [gA_sA_p _ _ _ _ (show a + 1 ≠ a + 3 by omega), gA_sA_p _ _ _ _ (show a + 1 ≠ a + 2 by omega), (hj k hk2).1]
      refine hL _ _ _ ⟨ag_t hp (ag_t (ag_t (ag_t (ag_sA (p := a + 2) (by omega)) (ag_sA (p := a + 3) (by omega))) (ag_sA (p := a + 4) (by omega))) (ag_sI (by omega))), fun j hj2 => by rw [gI_sI_k _ _ _ _ hj2]; exact hI j hj2, rfl, k + 1, by omega, iz_s k, by rw [gI_sI_s, iz_s, fb_ct_succ, hw]; rfl, fun j hj2 => ?_, fun i hi => ?_⟩ hmu
      · simp only [gA_sI]
        rw [gA_sA_p _ _ _ _ (show a + 1 ≠ a + 4 by omega), gA_sA_p _ _ _ _ (show a + 1 ≠ a + 3 by omega), gA_sA_p _ _ _ _ (show a + 1 ≠ a + 2 by omega), gA_sA_p _ _ _ _ (show a + 2 ≠ a + 4 by omega), gA_sA_p _ _ _ _ (show a + 2 ≠ a + 3 by omega), gA_sA_s]
        refine ⟨(hj j hj2).1, ?_⟩
        by_cases q : j = k
        · subst q; rw [upd_s, if_pos (show j < j + 1 by omega)]; simp [ni, hw]
        · rw [upd_n _ _ q, (hj j hj2).2]
          congr 1
          by_cases q2 : j < k
          · rw [if_pos q2, if_pos (show j < k + 1 by omega)]
          · rw [if_neg q2, if_neg (show ¬ j < k + 1 by omega)]
      · simp only [gA_sI]
        rw [fb_ct_succ, hw] at hi
        rw [gA_sA_p _ _ _ _ (show a + 3 ≠ a + 4 by omega), gA_sA_s, gA_sA_s, gA_sA_p _ _ _ _ (show a + 3 ≠ a + 2 by omega), gA_sA_p _ _ _ _ (show a + 4 ≠ a + 3 by omega), gA_sA_p _ _ _ _ (show a + 4 ≠ a + 2 by omega)]
        by_cases q : i = fb_ct (nw b) k
        · subst q
          rw [upd_s, upd_s, nt, nb_of hk2 hw]; exact ⟨rfl, rfl⟩
        · rw [upd_n _ _ q, upd_n _ _ q]
          exact ha i (by simp only [if_true] at hi; omega)
/-- delays of the latest ones ahead of news i, as many as the window holds -/
def wsm (b : BT) (i : Nat) : Int := fb_si (fun k => dy b (i - 1 - k)) (min i (bW b))
theorem si_head (f : Nat → Int) (m : Nat) : fb_si f (m + 1) = f 0 + fb_si (fun k => f (k + 1)) m := by
  rw [Nat.add_comm, fb_si_split f 1 m]
  congr 1
  · simp [fb_si]
  · exact fb_si_cong (fun k _ => by rw [Nat.add_comm])
theorem wsm_lo {b : BT} {i : Nat} (h : i < bW b) : wsm b i + dy b i = fb_si (fun k => dy b (i - k)) (bl b i) := by
  unfold wsm bl
  rw [show min i (bW b) = i by omega, show min (i + 1) (bW b) = i + 1 by omega, si_head, Int.add_comm]
  congr 1
  exact fb_si_cong (fun k _ => by congr 1; omega)
theorem wsm_hi {b : BT} (hB : BB b) {i : Nat} (h : bW b ≤ i) : wsm b i + dy b i - dy b (i - bW b) = fb_si (fun k => dy b (i - k)) (bl b i) := by
  have r := hB.2.2.2
  unfold wsm bl
  obtain ⟨m, hm⟩ : ∃ m, bW b = m + 1 := ⟨bW b - 1, by omega⟩
  rw [show min i (bW b) = m + 1 by omega, show min (i + 1) (bW b) = m + 1 by omega, si_head (fun k => dy b (i - k)), fb_si_succ]
  have e1 : fb_si (fun k => dy b (i - (k + 1))) m = fb_si (fun k => dy b (i - 1 - k)) m := fb_si_cong (fun k _ => by congr 1; omega)
  have e2 : dy b (i - 1 - m) = dy b (i - bW b) := by congr 1; omega
  rw [e1, e2]
  simp only [Nat.sub_zero]
  omega
theorem wsm_s {b : BT} (i : Nat) : wsm b (i + 1) = fb_si (fun k => dy b (i - k)) (bl b i) := by
  unfold wsm bl; simp
theorem c_expectNext {σ : SS} {a : Nat} {b : BT} {K : SS → Prop} (hB : BB b) (hI : gI σ a 7 = iz (nc b) ∧ gI σ a 8 = iz (bP b) ∧ gI σ a 9 = iz (bW b)) (h0 : ∀ k, k < bN b → gA σ (a + 1) k = iz (tm b k) ∧ gA σ (a + 2) k = iz (ni b k)) (h1 : ∀ i, i < nc b → gA σ (a + 3) i = iz (nb b i) ∧ gA σ (a + 4) i = iz (nt b i))
    (h : ∀ σ', ag a (a + 8) σ σ' → CA σ' a b → K σ') : wp_X0_expectNext σ a K := by
  have r5 := nc_40 hB
  have rw := hB.2.2.2
  unfold wp_X0_expectNext
  simp only [ize]
  refine fx3_i (fun σ1 x1 x2 => ag a (a + 8) σ σ1 ∧ (∀ k, gI σ1 a k = gI σ a k) ∧ (∀ p, (p = a + 5 ∨ p = a + 6 ∨ p = a + 7) ∨ gA σ1 p = gA σ p) ∧ ∃ i : Nat, i ≤ nc b ∧ x2 = iz i ∧ x1 = iz (wsm b i) ∧ ∀ j, j < i → gA σ1 (a + 5) j = iz (ab b j) ∧ gA σ1 (a + 6) j = iz (bl b j) ∧ gA σ1 (a + 7) j = iz (up (ab b j) (bl b j))) (fun _ _ x2 => 50 - x2.toNatClampNeg) ?_ _ _ _ ⟨ag_r σ, fun _ => rfl, fun _ => Or.inr rfl, 0, Nat.zero_le _, rfl, by simp [wsm, fb_si], fun j hj => absurd hj (Nat.not_lt_zero j)⟩
  rintro L σ1 x1 x2 ⟨hp, hI1, hA1, i, hi, rfl, rfl, hj⟩ hL
  have gA1 : ∀ p, ¬ (p = a + 5 ∨ p = a + 6 ∨ p = a + 7) → gA σ1 p = gA σ p := fun p hp => (hA1 p).resolve_left hp
  unfold lb_X0_expectNext_4
  rw [hI1, hI1, hI1, hI.1, hI.2.1, hI.2.2]
  simp only [ize]
  refine cle (by omega) (fun e => ?_) (fun e => ?_)
  · have e3 : i = nc b := by omega
    subst e3
    refine h σ1 hp ⟨⟨by rw [hI1]; exact hI.1, by rw [hI1]; exact hI.2.1, by rw [hI1]; exact hI.2.2⟩, fun k hk => ?_, fun j hj2 => ?_⟩
    · rw [gA1 _ (by omega), gA1 _ (by omega)]; exact h0 k hk
    · rw [gA1 (a + 3) (by omega), gA1 (a + 4) (by omega)]
      exact ⟨(h1 j hj2).1, (h1 j hj2).2, hj j hj2⟩
  · have hi2 : i < nc b := by omega
    have rb := bl_rng hB i
    have ra := ab_rng hB hi2
    have rs := sum_rng hB hi2 rb.2.1
    have hmu : 50 - (iz (i : Int) + iz 1).toNatClampNeg < 50 - (iz (i : Int)).toNatClampNeg := by
      rw [iz_s, iz_cl (by omega), iz_cl (by omega)]; omega
    have k65 : ∀ y, y = iz (fb_si (fun k => dy b (i - k)) (bl b i)) → bl_X0_expectNext_65 K L a σ1 y (iz i) := by
      intro y hy
      unfold bl_X0_expectNext_65
      rw [hI1, hI1, hI.2.1, hI.2.2, iz_cl (show i < 2147483648 by omega), gA1 (a + 3) (by omega), (h1 i hi2).1]
      simp only [ize, iz_s]
      rw [if_iz (by omega), show (if (bW b : Int) < ((i + 1 : Nat) : Int) then (bW b : Int) else ((i + 1 : Nat) : Int)) = (bl b i : Int) by unfold bl; split <;> omega]
      have e1 : y + iz (bl b i : Int) * iz ((nb b i + 1 : Nat) : Int) * iz (bP b) = iz (ab b i) := by
        rw [hy, iz_mul, iz_mul, iz_add]
        unfold ab
        congr 1
        rw [Int.add_comm, Int.mul_right_comm]; rfl
      rw [e1]
      refine ⟨iz_in (by omega), iz_in (by omega), iz_in (by omega), cle (by omega) (fun e2 => ⟨by rw [iz_eq (by omega)]; omega, iz_in (by omega), ?_⟩) (fun e2 => by omega)⟩
      rw [iz_add, iz_sub, iz_div (by omega), hy]
      refine hL _ _ _ ⟨ag_t hp (ag_t (ag_t (ag_sA (p := a + 5) (by omega)) (ag_sA (p := a + 6) (by omega))) (ag_sA (p := a + 7) (by omega))), fun k => hI1 k, fun p => ?_, i + 1, by omega, rfl, by rw [wsm_s], fun j hj2 => ?_⟩ (by rw [← iz_s]; exact hmu)
      · by_cases q5 : p = a + 5
        · exact Or.inl (Or.inl q5)
        · by_cases q6 : p = a + 6
          · exact Or.inl (Or.inr (Or.inl q6))
          · by_cases q7 : p = a + 7
            · exact Or.inl (Or.inr (Or.inr q7))
            · right; rw [gA_sA_p _ _ _ _ q7, gA_sA_p _ _ _ _ q6, gA_sA_p _ _ _ _ q5]; exact gA1 p (by omega)
      · rw [gA_sA_p _ _ _ _ (show a + 5 ≠ a + 7 by omega), gA_sA_p _ _ _ _ (show a + 5 ≠ a + 6 by omega), gA_sA_s, gA_sA_p _ _ _ _ (show a + 6 ≠ a + 7 by omega), gA_sA_s, gA_sA_s, gA_sA_p _ _ _ _ (show a + 6 ≠ a + 5 by omega), gA_sA_p _ _ _ _ (show a + 7 ≠ a + 6 by omega), gA_sA_p _ _ _ _ (show a + 7 ≠ a + 5 by omega)]
        by_cases q : j = i
        · subst q; rw [upd_s, upd_s, upd_s]; exact ⟨rfl, rfl, rfl⟩
        · rw [upd_n _ _ q, upd_n _ _ q, upd_n _ _ q]; exact hj j (by omega)
    rw [iz_cl (show i < 2147483648 by omega), gA1 (a + 3) (by omega), gA1 (a + 4) (by omega), (h1 i hi2).1, (h1 i hi2).2]
    have edy : iz (nt b i) - iz (nb b i : Int) * iz (bP b) = iz (dy b i) := by rw [iz_mul, iz_sub]; unfold dy; rw [Int.mul_comm]
    rw [edy, iz_add, iz_sub]
    refine ⟨iz_in (by omega), iz_in (by omega), clt (by omega) (fun e2 => k65 _ ?_) (fun e2 => ?_)⟩
    · rw [wsm_lo (by omega)]
    · have eg : (i : Int) - (bW b : Int) = ((i - bW b : Nat) : Int) := by omega
      rw [eg, iz_cl (show i - bW b < 2147483648 by omega), (h1 (i - bW b) (by omega)).1, (h1 (i - bW b) (by omega)).2]
      have edy2 : iz (nt b (i - bW b)) - iz (nb b (i - bW b) : Int) * iz (bP b) = iz (dy b (i - bW b)) := by rw [iz_mul, iz_sub]; unfold dy; rw [Int.mul_comm]
      rw [edy2, iz_sub]
      exact ⟨iz_in (by omega), iz_in (by omega), k65 _ (by rw [wsm_hi hB (by omega)])⟩
theorem c_follow {σ : SS} {a p1 : Nat} {b : BT} {K : SS → Prop} (hB : BB b) (hp1 : p1 < a ∨ a + 8 ≤ p1) (hd : ∀ k, gA σ p1 k = iz (bD b k)) (h : ∀ σ', ag a (a + 8) σ σ' → CA σ' a b → K σ') : wp_X0_follow σ a p1 (iz (bN b)) (iz (bP b)) (iz (bW b)) (iz (bS b)) K := by
  have hn := hB.1.1
  unfold wp_X0_follow
  simp only [ize, iz_sub]
  refine fx6_i (fun σ1 x2 x3 x5 x6 x7 => (ag a (a + 8) σ σ1 ∧ gI σ1 a 8 = iz (bP b) ∧ gI σ1 a 9 = iz (bW b)) ∧ x2 = iz (bN b) ∧ x3 = iz (bP b) ∧ x5 = iz (bS b) ∧ ∃ (m : Nat) (S : Int), m ≤ bN b ∧ x7 = iz ((m : Int) - 1) ∧ x6 = iz S ∧ (0 ≤ S ∧ S ≤ 1000000) ∧ ((∀ q, m ≤ q → q < bN b → lo b q = true ∨ S ≤ tm b q) ∧ (S = 1000000 ∨ ∃ q, (m ≤ q ∧ q < bN b) ∧ lo b q = false ∧ S = tm b q)) ∧ ∀ j, m ≤ j → j < bN b → gA σ1 (a + 1) j = iz (tm b j) ∧ gA σ1 (a + 2) j = iz (if nw b j then (j : Int) else -1)) (fun _ _ _ _ _ x7 => (x7 + 1).toNatClampNeg) ?_ _ _ _ _ _ _ ⟨⟨ag_t (ag_sI (by omega)) (ag_sI (by omega)), by rw [gI_sI_k _ _ _ _ (by decide), gI_sI_s], gI_sI_s _ _ _ _⟩, rfl, rfl, rfl, bN b, 1000000, Nat.le_refl _, rfl, rfl, by omega, ⟨fun q h1 h2 => absurd h2 (by omega), Or.inl rfl⟩, fun j h1 h2 => absurd h2 (by omega)⟩
  rintro L σ1 x2 x3 x5 x6 x7 ⟨⟨hp, g8, g9⟩, rfl, rfl, rfl, m, S, hm, rfl, rfl, hS, ⟨hS1, hS2⟩, hj⟩ hL
  unfold lb_X0_follow_20
  simp only [ize]
  refine clt (by omega) (fun e => ?_) (fun e => ?_)
  · have e0 : m = 0 := by omega
    subst e0
    refine c_numberNews hB (fun k hk => hj k (Nat.zero_le _) hk) (fun σ2 hp2 hI2 h7 hk2 hi2 => ?_)
    exact c_expectNext hB ⟨h7, by rw [hI2 8 (by decide)]; exact g8, by rw [hI2 9 (by decide)]; exact g9⟩ hk2 hi2 (fun σ3 hp3 hC => h σ3 (ag_t hp (ag_t hp2 hp3)) hC)
  · obtain ⟨k, rfl⟩ : ∃ k, m = k + 1 := ⟨m - 1, by omega⟩
    have ek : ((k + 1 : Nat) : Int) - 1 = (k : Int) := by omega
    rw [ek]
    have hk : k < bN b := by omega
    have rk := kp_rng hB (show k < 40 by omega)
    have rd := hB.1.2 k
    have rs := hB.2.2.1
    have rt := tm_rng hB (show k < 40 by omega)
    have hmu : (iz (k : Int) + iz (-1) + 1).toNatClampNeg < (iz (((k + 1 : Nat) : Int) - 1) + 1).toNatClampNeg := by
      rw [iz_add, ize.2.1, iz_add, iz_add, show (k : Int) + -1 + 1 = (k : Int) by omega, show ((k + 1 : Nat) : Int) - 1 + 1 = ((k + 1 : Nat) : Int) by omega, iz_cl (by omega), iz_cl (by omega)]; omega
    have em : iz (k : Int) + iz (-1) = iz ((k : Int) - 1) := by rw [iz_add]; congr 1
    have hnw : ∀ v, v = nw b k → bl_X0_follow_94 K L a p1 σ1 (iz (bN b)) (iz (bP b)) (iz (bS b)) (iz S) (iz k) (iz (tm b k)) (bz v) := by
      intro v hv
      have k122 : bl_X0_follow_122 K L a p1 (sA σ1 (a + 1) k (iz (tm b k))) (iz (bN b)) (iz (bP b)) (iz (bS b)) (iz S) (iz k) (iz (tm b k)) (bz v) (iz (if nw b k then (k : Int) else -1)) (iz k) := by
        unfold bl_X0_follow_122
        rw [iz_cl (show k < 2147483648 by omega)]
        simp only [ize]
        have go : ∀ S' : Int, (0 ≤ S' ∧ S' ≤ 1000000) → (∀ q, k ≤ q → q < bN b → lo b q = true ∨ S' ≤ tm b q) → (S' = 1000000 ∨ ∃ q, (k ≤ q ∧ q < bN b) ∧ lo b q = false ∧ S' = tm b q) → L (sA (sA σ1 (a + 1) k (iz (tm b k))) (a + 2) k (iz (if nw b k then (k : Int) else -1))) (iz (bN b)) (iz (bP b)) (iz (bS b)) (iz S') (iz k + iz (-1)) := by
          intro S' h1 h2 h3
          refine hL _ _ _ _ _ _ ⟨⟨ag_t hp (ag_t (ag_sA (p := a + 1) (by omega)) (ag_sA (p := a + 2) (by omega))), g8, g9⟩, rfl, rfl, rfl, k, S', by omega, em, rfl, h1, ⟨h2, h3⟩, fun j hj1 hj2 => ?_⟩ hmu
          rw [gA_sA_p _ _ _ _ (show a + 1 ≠ a + 2 by omega), gA_sA_s, gA_sA_s, gA_sA_p _ _ _ _ (show a + 2 ≠ a + 1 by omega)]
          by_cases q : j = k
          · subst q; rw [upd_s, upd_s]; exact ⟨rfl, rfl⟩
          · rw [upd_n _ _ q, upd_n _ _ q]; exact hj j (by omega) hj2
        refine ⟨iz_in (by omega), bz_d (fun e1 => ?_) (fun e1 => ?_)⟩
        · have hw := nw_iff.mp (hv.symm.trans e1)
          have rp := tm_pos hB (show k < 40 by omega) hw.1
          refine go (tm b k) (by omega) (fun q h1 h2 => ?_) (Or.inr ⟨k, ⟨Nat.le_refl _, hk⟩, hw.1, rfl⟩)
          by_cases q3 : q = k
          · subst q3; exact Or.inr (Int.le_refl _)
          · exact hw.2 q (by omega) h2
        · have hw : nw b k = false := hv.symm.trans e1
          refine go S hS (fun q h1 h2 => ?_) (hS2.elim Or.inl (fun ⟨q, hq1, hq2⟩ => Or.inr ⟨q, ⟨by omega, hq1.2⟩, hq2⟩))
          by_cases q3 : q = k
          · subst q3
            cases hl : lo b q with
            | true => exact Or.inl rfl
            | false =>
              right
              refine Classical.byContradiction fun hlt => ?_
              have : nw b q = true := nw_iff.mpr ⟨hl, fun q' h1' h2' => (hS1 q' (by omega) h2').elim Or.inl (fun z => Or.inr (by omega))⟩
              rw [this] at hw; cases hw
          · exact hS1 q (by omega) h2
      unfold bl_X0_follow_94
      rw [iz_cl (show k < 2147483648 by omega)]
      simp only [ize]
      refine ⟨iz_in (by omega), bz_d (fun e1 => ?_) (fun e1 => ?_)⟩
      · rw [← hv, e1] at k122; rw [e1]; exact k122
      · rw [← hv, e1] at k122; rw [e1]; exact k122
    have h75 : bl_X0_follow_75 K L a p1 σ1 (iz (bN b)) (iz (bP b)) (iz (bS b)) (iz S) (iz k) (bz (lo b k)) (iz (tm b k)) := by
      unfold bl_X0_follow_75
      simp only [ize]
      refine bz_c (fun e1 => ?_) (fun e1 => clt (by omega) (fun e2 => ?_) (fun e2 => ?_))
      · exact hnw false (by cases hw : nw b k with | false => rfl | true => rw [(nw_iff.mp hw).1] at e1; cases e1)
      · refine hnw false ?_
        cases hw : nw b k with
        | false => rfl
        | true =>
          have h3 := nw_iff.mp hw
          rcases hS2 with h4 | ⟨q, hq1, hq2, hq3⟩
          · omega
          · rcases h3.2 q (by omega) hq1.2 with h5 | h5
            · rw [hq2] at h5; cases h5
            · omega
      · exact hnw true (nw_iff.mpr ⟨e1, fun q h1 h2 => (hS1 q (by omega) h2).elim Or.inl (fun z => Or.inr (by omega))⟩).symm
    have h57 : ∀ v, v = lo b k → bl_X0_follow_57 K L a p1 σ1 (iz (bN b)) (iz (bP b)) (iz (bS b)) (iz S) (iz k) (iz ((k : Int) * bP b)) (bz v) := by
      intro v hv
      unfold bl_X0_follow_57
      rw [iz_cl (show k < 2147483648 by omega), ag_A hp hp1, hd, iz_add]
      simp only [ize]
      refine bz_d (fun e1 => ?_) (fun e1 => ⟨iz_in (by omega), ?_⟩)
      · rw [e1] at hv ⊢
        rw [← hv, tm_t hv.symm] at h75; exact h75
      · rw [e1] at hv ⊢
        rw [← hv, tm_f hv.symm] at h75; exact h75
    rw [iz_cl (show k < 2147483648 by omega), ag_A hp hp1, hd, iz_mul]
    refine ⟨iz_in (by omega), ceq (by omega) (fun e1 => ?_) (fun e1 => ceq (by omega) (fun e2 => ?_) (fun e2 => clt (by omega) (fun e3 => ?_) (fun e3 => ?_)))⟩
    · exact h57 true (by simp [lo, e1])
    · exact h57 false (by simp [lo, e1, e2])
    · exact h57 false (by symm; simp only [lo, Bool.or_eq_false_iff, Bool.and_eq_false_iff, decide_eq_false_iff_not]; exact ⟨e1, Or.inr (by omega)⟩)
    · exact h57 true (by symm; simp only [lo, Bool.or_eq_true, Bool.and_eq_true, decide_eq_true_eq]; exact Or.inr ⟨e2, e3⟩)
