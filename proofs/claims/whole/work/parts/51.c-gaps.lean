/-! ===== the class: gaps in order ===== -/
def SR (σ : SS) (g : Nat) (R : Nat → Int) (n : Nat) : Prop := gI σ g 1 = iz n ∧ ∀ j, j < n → gA σ (g + 1) j = iz (R j) ∧ 0 ≤ R j ∧ R j ≤ 2049
def srt (R : Nat → Int) (n : Nat) : Prop := ∀ j, j + 1 < n → R j ≤ R (j + 1)
def ctR (R : Nat → Int) (n : Nat) (u : Int) : Nat := fb_ct (fun j => decide (R j < u)) n
def b1 (p : Bool) : Nat := if p then 1 else 0
theorem srt_le {R : Nat → Int} {n : Nat} (h : srt R n) : ∀ {i j : Nat}, i ≤ j → j < n → R i ≤ R j := by
  intro i j hij
  obtain ⟨d, rfl⟩ := Nat.le.dest hij
  clear hij
  induction d with
  | zero => intro _; exact Int.le_refl _
  | succ d ih => intro hj; exact Int.le_trans (ih (by omega)) (h (i + d) (by omega))
theorem ct_head (p : Nat → Bool) (m : Nat) : fb_ct p (m + 1) = b1 (p 0) + fb_ct (fun k => p (k + 1)) m := by
  rw [Nat.add_comm m 1, fb_ct_split p 1 m]
  congr 1
  · simp [fb_ct, b1]
  · exact fb_ct_cong (fun k _ => by rw [Nat.add_comm])
theorem ct_ins {R R' : Nat → Int} {a n : Nat} {v : Int} (ha : a ≤ n) (h1 : ∀ j, j < a → R' j = R j) (h2 : R' a = v) (h3 : ∀ j, a < j → j ≤ n → R' j = R (j - 1)) (u : Int) : ctR R' (n + 1) u = ctR R n u + b1 (decide (v < u)) := by
  obtain ⟨d, rfl⟩ := Nat.le.dest ha
  unfold ctR
  rw [show a + d + 1 = a + (d + 1) by omega, fb_ct_split _ a (d + 1), fb_ct_split _ a d, ct_head]
  have e1 : fb_ct (fun j => decide (R' j < u)) a = fb_ct (fun j => decide (R j < u)) a := fb_ct_cong (fun k hk => by rw [h1 k hk])
  have e2 : fb_ct (fun k => decide (R' (a + (k + 1)) < u)) d = fb_ct (fun k => decide (R (a + k) < u)) d := fb_ct_cong (fun k hk => by rw [h3 _ (by omega) (by omega)]; rfl)
  rw [e1, e2]
  simp only [Nat.add_zero, h2]
  omega
theorem ct_del {R R' : Nat → Int} {a n : Nat} (ha : a < n) (h1 : ∀ j, j < a → R' j = R j) (h3 : ∀ j, a ≤ j → j + 1 < n → R' j = R (j + 1)) (u : Int) : ctR R' (n - 1) u + b1 (decide (R a < u)) = ctR R n u := by
  obtain ⟨d, hd⟩ : ∃ d, n = a + (d + 1) := ⟨n - a - 1, by omega⟩
  subst hd
  unfold ctR
  rw [show a + (d + 1) - 1 = a + d by omega, fb_ct_split _ a d, fb_ct_split _ a (d + 1), ct_head]
  have e1 : fb_ct (fun j => decide (R' j < u)) a = fb_ct (fun j => decide (R j < u)) a := fb_ct_cong (fun k hk => by rw [h1 k hk])
  have e2 : fb_ct (fun k => decide (R' (a + k) < u)) d = fb_ct (fun k => decide (R (a + (k + 1)) < u)) d := fb_ct_cong (fun k hk => by rw [h3 _ (by omega) (by omega)]; rfl)
  rw [e1, e2]
  simp only [Nat.add_zero]
  omega
theorem ct_has {f : Nat → Int} {n : Nat} {v : Int} (h : fb_ct (fun j => decide (f j < v + 1)) n ≠ fb_ct (fun j => decide (f j < v)) n) : ∃ j, j < n ∧ f j = v := by
  refine Classical.byContradiction fun hx => h (fb_ct_cong (fun k hk => ?_))
  have : f k ≠ v := fun e => hx ⟨k, hk, e⟩
  simp only [decide_eq_decide]; omega
theorem ct_more {f : Nat → Int} {n k : Nat} {v : Int} (hk : k < n) (h : f k = v) : fb_ct (fun j => decide (f j < v + 1)) n ≠ fb_ct (fun j => decide (f j < v)) n := by
  have e1 := fb_ct_sub (p := fun j => decide (f j < v)) (q := fun j => decide (f j < v + 1)) (n := k) (fun j _ hj => by simp only [decide_eq_true_eq] at *; omega)
  have e2 := fb_ct_sub (p := fun j => decide (f (k + 1 + j) < v)) (q := fun j => decide (f (k + 1 + j) < v + 1)) (n := n - (k + 1)) (fun j _ hj => by simp only [decide_eq_true_eq] at *; omega)
  have e3 := fb_ct_split (fun j => decide (f j < v)) (k + 1) (n - (k + 1))
  have e4 := fb_ct_split (fun j => decide (f j < v + 1)) (k + 1) (n - (k + 1))
  rw [show k + 1 + (n - (k + 1)) = n by omega] at e3 e4
  rw [e3, e4, fb_ct_succ, fb_ct_succ]
  simp only [h, show decide (v < v) = false by simp, show decide (v < v + 1) = true by simp; omega]
  simp only [if_true, Bool.false_eq_true, if_false]
  omega
theorem c_takeIn {σ : SS} {g : Nat} {R : Nat → Int} {n : Nat} {v : Int} {K : SS → Prop} (hR : SR σ g R n) (hs : srt R n) (hn : n < 16) (hv : 0 ≤ v ∧ v ≤ 2049) (h : ∀ σ' R', ag g (g + 2) σ σ' → SR σ' g R' (n + 1) → srt R' (n + 1) → (∀ u, ctR R' (n + 1) u = ctR R n u + b1 (decide (v < u))) → K σ') : wp_X2_takeIn σ g (iz v) K := by
  unfold wp_X2_takeIn
  rw [hR.1]
  simp only [ize]
  refine clt (by omega) (fun _ => ?_) (fun e => by omega)
  refine fx3_i (fun σ1 x1 x2 => x1 = iz v ∧ ag g (g + 2) σ σ1 ∧ gI σ1 g 1 = iz n ∧ ∃ a : Nat, a ≤ n ∧ x2 = iz a ∧ (∀ j, j < a → gA σ1 (g + 1) j = iz (R j)) ∧ ∀ j, a < j → j ≤ n → gA σ1 (g + 1) j = iz (R (j - 1)) ∧ v < R (j - 1)) (fun _ _ x2 => x2.toNatClampNeg) ?_ _ _ _ ⟨rfl, ag_r σ, hR.1, n, Nat.le_refl _, rfl, fun j hj => (hR.2 j hj).1, fun j h1 h2 => by omega⟩
  rintro L σ1 x1 x2 ⟨rfl, hp, h1, a, ha, rfl, hlo, hhi⟩ hL
  have fin : (a = 0 ∨ R (a - 1) ≤ v) → bl_X2_takeIn_54 K g σ1 (iz v) (iz a) := by
    intro hfit
    unfold bl_X2_takeIn_54
    rw [h1, iz_cl (by omega)]
    simp only [ize, iz_s]
    refine ⟨iz_in (by omega), ?_⟩
    refine h _ (fun j => if j < a then R j else if j = a then v else R (j - 1)) (ag_t hp (ag_t (ag_sA (p := g + 1) (by omega)) (ag_sI (by omega)))) ⟨gI_sI_s _ _ _ _, fun j hj => ?_⟩ (fun j hj => ?_) (fun u => ?_)
    · rw [gA_sI, gA_sA_s]
      by_cases q : j = a
      · subst q; rw [upd_s]; simp [hv]
      · rw [upd_n _ _ q]
        by_cases q2 : j < a
        · simp only [if_pos q2]; exact ⟨hlo j q2, (hR.2 j (by omega)).2⟩
        · simp only [if_neg q2, if_neg q]; exact ⟨(hhi j (by omega) (by omega)).1, (hR.2 (j - 1) (by omega)).2⟩
    · by_cases q : j + 1 < a
      · simp only [if_pos q, if_pos (show j < a by omega)]; exact hs j (by omega)
      · by_cases q2 : j + 1 = a
        · simp only [if_neg q, if_pos q2, if_pos (show j < a by omega)]
          rcases hfit with q3 | q3
          · omega
          · rw [show a - 1 = j by omega] at q3; exact q3
        · by_cases q3 : j = a
          · simp only [if_neg q, if_neg q2, if_neg (show ¬ j < a by omega), if_pos q3]
            have := (hhi (j + 1) (by omega) (by omega)).2
            omega
          · simp only [if_neg q, if_neg q2, if_neg (show ¬ j < a by omega), if_neg q3]
            have := hs (j - 1) (by omega)
            rw [show j - 1 + 1 = j + 1 - 1 by omega] at this; exact this
    · refine ct_ins ha (fun j hj => by simp only [if_pos hj]) (by simp) (fun j h1 h2 => ?_) u
      simp only [if_neg (show ¬ j < a by omega), if_neg (show ¬ j = a by omega)]
  unfold lb_X2_takeIn_18
  simp only [ize]
  refine cle (by omega) (fun e => fin (Or.inl (by omega))) (fun e => ?_)
  have ea : (a : Int) - 1 = ((a - 1 : Nat) : Int) := by omega
  have rr := hR.2 (a - 1) (by omega)
  rw [iz_sub, ea, iz_cl (by omega), iz_cl (by omega), hlo (a - 1) (by omega)]
  refine ⟨iz_in (by omega), cle (by omega) (fun e2 => fin (Or.inr e2)) (fun e2 => ⟨iz_in (by omega), iz_in (by omega), ?_⟩)⟩
  have em : iz (a : Int) + iz (-1) = iz ((a - 1 : Nat) : Int) := by rw [iz_add]; congr 1
  refine hL _ _ _ ⟨rfl, ag_t hp (ag_sA (p := g + 1) (by omega)), h1, a - 1, by omega, em, fun j hj => ?_, fun j h2 h3 => ?_⟩ ?_
  · rw [gA_sA_s, upd_n _ _ (by omega)]; exact hlo j (by omega)
  · rw [gA_sA_s]
    by_cases q : j = a
    · subst q; rw [upd_s]; exact ⟨rfl, by omega⟩
    · rw [upd_n _ _ q]; exact hhi j (by omega) h3
  · rw [em, iz_cl (by omega), iz_cl (by omega)]; omega
theorem c_takeOut {σ : SS} {g : Nat} {R : Nat → Int} {n : Nat} {v : Int} {K : SS → Prop} (hR : SR σ g R n) (hs : srt R n) (hn : n ≤ 16) (hv : 0 ≤ v ∧ v ≤ 2049) (hex : ∃ j, j < n ∧ R j = v) (h : ∀ σ' R', ag g (g + 2) σ σ' → SR σ' g R' (n - 1) → srt R' (n - 1) → (∀ u, ctR R' (n - 1) u + b1 (decide (v < u)) = ctR R n u) → K σ') : wp_X2_takeOut σ g (iz v) K := by
  unfold wp_X2_takeOut
  simp only [ize]
  refine fx3_i (fun σ1 x1 x2 => σ1 = σ ∧ x1 = iz v ∧ ∃ a : Nat, a ≤ n ∧ x2 = iz a ∧ ∀ j, j < a → R j ≠ v) (fun _ _ x2 => 50 - x2.toNatClampNeg) ?_ _ _ _ ⟨rfl, rfl, 0, Nat.zero_le _, rfl, fun j hj => absurd hj (Nat.not_lt_zero j)⟩
  rintro L σ1 x1 x2 ⟨rfl, rfl, a, ha, rfl, hne⟩ hL
  have han : a < n := by
    obtain ⟨j, h1, h2⟩ := hex
    rcases Nat.lt_or_ge j a with q | q
    · exact absurd h2 (hne j q)
    · omega
  unfold lb_X2_takeOut_2
  rw [hR.1, iz_cl (by omega), (hR.2 a han).1]
  have ra := hR.2 a han
  simp only [ize]
  refine cle (by omega) (fun e => by omega) (fun _ => ⟨iz_in (by omega), ceq (by omega) (fun e2 => ?_) (fun e2 => ?_)⟩)
  · unfold bl_X2_takeOut_26
    rw [hR.1]
    simp only [ize, iz_s]
    refine clt (by omega) (fun _ => ?_) (fun e => by omega)
    refine fx2_i (fun σ2 x3 => ag g (g + 2) σ1 σ2 ∧ gI σ2 g 1 = iz n ∧ ∃ c : Nat, (a < c ∧ c ≤ n) ∧ x3 = iz c ∧ (∀ j, j < a → gA σ2 (g + 1) j = iz (R j)) ∧ (∀ j, a ≤ j → j + 1 < c → gA σ2 (g + 1) j = iz (R (j + 1))) ∧ ∀ j, c ≤ j → j < n → gA σ2 (g + 1) j = iz (R j)) (fun _ x3 => 50 - x3.toNatClampNeg) ?_ _ _ ⟨ag_r σ1, hR.1, a + 1, ⟨by omega, by omega⟩, rfl, fun j hj => (hR.2 j (by omega)).1, fun j h1 h2 => by omega, fun j h1 h2 => (hR.2 j h2).1⟩
    rintro L2 σ2 x3 ⟨hp, g1, c, hc, rfl, q1, q2, q3⟩ hL2
    unfold lb_X2_takeOut_39
    rw [g1]
    simp only [ize, iz_sub]
    refine cle (by omega) (fun e3 => ?_) (fun e3 => ?_)
    · have e4 : c = n := by omega
      subst e4
      have en : (c : Int) - 1 = ((c - 1 : Nat) : Int) := by omega
      rw [en]
      refine h _ (fun j => if j < a then R j else R (j + 1)) (ag_t hp (ag_sI (by omega))) ⟨gI_sI_s _ _ _ _, fun j hj => ?_⟩ (fun j hj => ?_) (fun u => ?_)
      · rw [gA_sI]
        by_cases q : j < a
        · simp only [if_pos q]; exact ⟨q1 j q, (hR.2 j (by omega)).2⟩
        · simp only [if_neg q]; exact ⟨q2 j (by omega) (by omega), (hR.2 (j + 1) (by omega)).2⟩
      · by_cases q : j + 1 < a
        · simp only [if_pos q, if_pos (show j < a by omega)]; exact hs j (by omega)
        · by_cases q5 : j < a
          · simp only [if_neg q, if_pos q5]; exact srt_le hs (by omega) (by omega)
          · simp only [if_neg q, if_neg q5]; exact hs (j + 1) (by omega)
      · have := ct_del (R := R) (R' := fun j => if j < a then R j else R (j + 1)) han (fun j hj => by simp only [if_pos hj]) (fun j h1 h2 => by simp only [if_neg (show ¬ j < a by omega)]) u
        rw [e2] at this; exact this
    · have ec : (c : Int) - 1 = ((c - 1 : Nat) : Int) := by omega
      rw [ec, iz_cl (by omega), iz_cl (by omega), q3 c (Nat.le_refl _) (by omega)]
      refine ⟨iz_in (by omega), iz_in (by omega), ?_⟩
      refine hL2 _ _ ⟨ag_t hp (ag_sA (p := g + 1) (by omega)), g1, c + 1, ⟨by omega, by omega⟩, iz_s c, fun j hj => ?_, fun j h1 h2 => ?_, fun j h1 h2 => ?_⟩ ?_
      · rw [gA_sA_s, upd_n _ _ (by omega)]; exact q1 j hj
      · rw [gA_sA_s]
        by_cases q : j = c - 1
        · subst q; rw [upd_s, show c - 1 + 1 = c by omega]
        · rw [upd_n _ _ q]; exact q2 j h1 (by omega)
      · rw [gA_sA_s, upd_n _ _ (by omega)]; exact q3 j (by omega) h2
      · rw [iz_s, iz_cl (by omega), iz_cl (by omega)]; omega
  · refine hL _ _ _ ⟨rfl, rfl, a + 1, by omega, iz_s a, fun j hj => ?_⟩ ?_
    · by_cases q : j = a
      · subst q; exact e2
      · exact hne j (by omega)
    · rw [iz_s, iz_cl (by omega), iz_cl (by omega)]; omega
/-- gaps by news i, in order, at place g -/
def RG (σ : SS) (g : Nat) (b : BT) (i : Nat) : Prop := ∃ R : Nat → Int, SR σ g R (gp b i) ∧ srt R (gp b i) ∧ ∀ u, ctR R (gp b i) u = lt b i u
theorem gap_s {b : BT} {i k : Nat} (hi : 0 < i) : gap b i (k + 1) = gap b (i - 1) k := by
  unfold gap
  rw [show i - (k + 1) = i - 1 - k by omega]
theorem lt_lo {b : BT} {i : Nat} (hi : 0 < i) (h : i ≤ bW b) (u : Int) : lt b i u = lt b (i - 1) u + b1 (decide (gap b i 0 < u)) := by
  unfold lt gp
  obtain ⟨m, rfl⟩ : ∃ m, i = m + 1 := ⟨i - 1, by omega⟩
  rw [show min (m + 1) (bW b) = m + 1 by omega, show min (m + 1 - 1) (bW b) = m by omega, ct_head, Nat.add_comm]
  congr 1
  exact fb_ct_cong (fun k _ => by rw [gap_s (by omega)])
theorem lt_hi {b : BT} (hB : BB b) {i : Nat} (h : bW b < i) (u : Int) : lt b i u + b1 (decide (gap b (i - 1) (bW b - 1) < u)) = lt b (i - 1) u + b1 (decide (gap b i 0 < u)) := by
  have r := hB.2.2.2
  unfold lt gp
  obtain ⟨m, hm⟩ : ∃ m, bW b = m + 1 := ⟨bW b - 1, by omega⟩
  rw [show min i (bW b) = m + 1 by omega, show min (i - 1) (bW b) = m + 1 by omega, ct_head, fb_ct_succ, show bW b - 1 = m by omega]
  have e : fb_ct (fun k => decide (gap b i (k + 1) < u)) m = fb_ct (fun k => decide (gap b (i - 1) k < u)) m := fb_ct_cong (fun k _ => by rw [gap_s (by omega)])
  rw [e]; unfold b1; omega
theorem c_moveOnTo {σ : SS} {g p2 : Nat} {b : BT} {K : SS → Prop} (hB : BB b) {i : Nat} (hi : i < nc b) (hp2 : p2 < g ∨ g + 2 ≤ p2) (hT : ∀ j, j < nc b → gA σ p2 j = iz (nt b j)) (hR : 0 < i → RG σ g b (i - 1)) (h : ∀ σ', ag g (g + 2) σ σ' → RG σ' g b i → K σ') : wp_X2_moveOnTo σ g (iz i) p2 (iz (bW b)) K := by
  have r := hB.2.2.2
  have r5 := nc_40 hB
  unfold wp_X2_moveOnTo
  simp only [ize, iz_sub]
  refine cne (by omega) (fun e => ?_) (fun e => ?_)
  · have hi0 : 0 < i := by omega
    obtain ⟨R, hS, hs, hc⟩ := hR hi0
    have e1 : (i : Int) - 1 = ((i - 1 : Nat) : Int) := by omega
    have rg0 := gap_rng hB (k := 0) hi
    have k36 : ∀ σ1 R1 m, ag g (g + 2) σ σ1 → SR σ1 g R1 m → srt R1 m → m < 16 → m + 1 = gp b i → (∀ u, ctR R1 m u + b1 (decide (gap b i 0 < u)) = lt b i u) → bl_X2_moveOnTo_36 K g p2 σ1 (iz i) := by
      intro σ1 R1 m hp1 hS1 hs1 hm hmg hc1
      unfold bl_X2_moveOnTo_36
      simp only [ize, iz_sub]
      rw [e1, iz_cl (by omega), iz_cl (by omega), ag_A hp1 hp2, hT i hi, hT (i - 1) (by omega), iz_sub]
      refine ⟨iz_in (by omega), iz_in (by omega), ?_⟩
      have eg : nt b i - nt b (i - 1) = gap b i 0 := by unfold gap; rfl
      rw [eg]
      refine c_takeIn hS1 hs1 hm rg0 (fun σ2 R2 hp3 hS2 hs2 hc2 => ?_)
      refine h σ2 (ag_t hp1 hp3) ⟨R2, by rw [← hmg]; exact hS2, by rw [← hmg]; exact hs2, fun u => ?_⟩
      rw [← hmg, hc2 u, hc1 u]
    refine clt (by omega) (fun e2 => ?_) (fun e2 => ?_)
    · refine k36 σ R (gp b (i - 1)) (ag_r σ) hS hs (by unfold gp; omega) (by unfold gp; omega) (fun u => ?_)
      rw [hc u, lt_lo hi0 (by omega)]
    · have eg : (i : Int) - (bW b : Int) = ((i - bW b : Nat) : Int) := by omega
      have eg1 : ((i - bW b : Nat) : Int) - 1 = ((i - bW b - 1 : Nat) : Int) := by omega
      rw [eg, eg1, iz_cl (by omega), iz_cl (by omega), hT (i - bW b) (by omega), hT (i - bW b - 1) (by omega), iz_sub]
      have rgl := gap_rng hB (i := i - 1) (k := bW b - 1) (by omega)
      have egp : nt b (i - bW b) - nt b (i - bW b - 1) = gap b (i - 1) (bW b - 1) := by
        unfold gap; rw [show i - 1 - (bW b - 1) = i - bW b by omega]
      rw [egp]
      refine ⟨iz_in (by omega), iz_in (by omega), ?_⟩
      have hgp : gp b (i - 1) = bW b := by unfold gp; omega
      have hex : ∃ j, j < gp b (i - 1) ∧ R j = gap b (i - 1) (bW b - 1) := by
        refine ct_has (f := R) ?_
        have h1 := hc (gap b (i - 1) (bW b - 1) + 1)
        have h2 := hc (gap b (i - 1) (bW b - 1))
        unfold ctR at h1 h2
        rw [h1, h2]
        exact ct_more (f := gap b (i - 1)) (k := bW b - 1) (by omega) rfl
      refine c_takeOut hS hs (by omega) rgl hex (fun σ1 R1 hp1 hS1 hs1 hc1 => ?_)
      refine k36 σ1 R1 _ hp1 hS1 hs1 (by omega) (by unfold gp at *; omega) (fun u => ?_)
      have h1 := hc1 u
      rw [hc u] at h1
      have h2 := lt_hi hB (i := i) (by omega) u
      omega
  · have e0 : i = 0 := by omega
    subst e0
    refine h _ (ag_sI (by omega)) ⟨fun _ => 0, ⟨?_, fun j hj => ?_⟩, fun j hj => ?_, fun u => ?_⟩
    · rw [gI_sI_s]; unfold gp; simp
    · unfold gp at hj; simp at hj
    · unfold gp at hj; simp at hj
    · unfold ctR lt gp; simp [fb_ct]
theorem tnF_is (b : BT) (i : Nat) (t : Int) (hg : ∀ j, 0 ≤ gap b i j) : ∀ k, (tnF b i t k = -1 ∧ ∀ j, j < k → ¬ t * (gp b i : Int) ≤ 10 * (lt b i (gap b i j + 1) : Int)) ∨ (∃ j, j < k ∧ tnF b i t k = gap b i j ∧ t * (gp b i : Int) ≤ 10 * (lt b i (gap b i j + 1) : Int) ∧ ∀ j', j' < k → t * (gp b i : Int) ≤ 10 * (lt b i (gap b i j' + 1) : Int) → gap b i j ≤ gap b i j')
  | 0 => Or.inl ⟨rfl, fun j hj => absurd hj (Nat.not_lt_zero j)⟩
  | k + 1 => by
    unfold tnF
    by_cases hq : t * (gp b i : Int) ≤ 10 * (lt b i (gap b i k + 1) : Int)
    · right
      rcases tnF_is b i t hg k with ⟨h1, h2⟩ | ⟨j, hj, h1, h2, h3⟩
      · rw [if_pos ⟨hq, Or.inl h1⟩]
        refine ⟨k, by omega, rfl, hq, fun j' hj' hq' => ?_⟩
        by_cases e : j' = k
        · subst e; exact Int.le_refl _
        · exact absurd hq' (h2 j' (by omega))
      · by_cases hl : gap b i k < tnF b i t k
        · rw [if_pos ⟨hq, Or.inr hl⟩]
          refine ⟨k, by omega, rfl, hq, fun j' hj' hq' => ?_⟩
          by_cases e : j' = k
          · subst e; exact Int.le_refl _
          · have := h3 j' (by omega) hq'; omega
        · by_cases hm1 : tnF b i t k = -1
          · have := hg j; omega
          · rw [if_neg (by omega)]
            refine ⟨j, by omega, h1, h2, fun j' hj' hq' => ?_⟩
            by_cases e : j' = k
            · subst e; omega
            · exact h3 j' (by omega) hq'
    · rw [if_neg (fun z => hq z.1)]
      rcases tnF_is b i t hg k with ⟨h1, h2⟩ | ⟨j, hj, h1, h2, h3⟩
      · left
        refine ⟨h1, fun j hj => ?_⟩
        by_cases e : j = k
        · subst e; exact hq
        · exact h2 j (by omega)
      · right
        refine ⟨j, by omega, h1, h2, fun j' hj' hq' => ?_⟩
        by_cases e : j' = k
        · subst e; exact absurd hq' hq
        · exact h3 j' (by omega) hq'
theorem ten_is {b : BT} {i : Nat} (hg : ∀ j, 0 ≤ gap b i j) {t : Int} {R : Nat → Int} {m : Nat} (hs : srt R (gp b i)) (hc : ∀ u, ctR R (gp b i) u = lt b i u) (hm : 0 < m ∧ m ≤ gp b i) (h1 : t * (gp b i : Int) ≤ 10 * (m : Int)) (h2 : 10 * (m : Int) < t * (gp b i : Int) + 10) : ten b i t = R (m - 1) := by
  have key : ∀ v, (m : Int) ≤ (lt b i (v + 1) : Int) ↔ R (m - 1) ≤ v := by
    intro v
    rw [← hc]
    unfold ctR
    constructor
    · intro h
      refine Classical.byContradiction fun hx => ?_
      have e1 := fb_ct_split (fun j => decide (R j < v + 1)) (m - 1) (gp b i - (m - 1))
      rw [show m - 1 + (gp b i - (m - 1)) = gp b i by omega] at e1
      have e2 : fb_ct (fun k => decide (R (m - 1 + k) < v + 1)) (gp b i - (m - 1)) = 0 := by
        rw [fb_ct_zero]
        intro k hk
        have := srt_le hs (show m - 1 ≤ m - 1 + k by omega) (by omega)
        simp only [decide_eq_false_iff_not]; omega
      have e3 := fb_ct_le (fun j => decide (R j < v + 1)) (m - 1)
      omega
    · intro h
      have e1 := fb_ct_mono (fun j => decide (R j < v + 1)) hm.2
      have e2 : fb_ct (fun j => decide (R j < v + 1)) m = m := by
        rw [fb_ct_all]
        intro k hk
        have := srt_le hs (show k ≤ m - 1 by omega) (by omega)
        simp only [decide_eq_true_eq]; omega
      omega
  have hq : ∀ v, t * (gp b i : Int) ≤ 10 * (lt b i (v + 1) : Int) ↔ R (m - 1) ≤ v := by
    intro v
    rw [← key v]
    omega
  have hex : ∃ j, j < gp b i ∧ gap b i j = R (m - 1) := by
    refine ct_has (f := gap b i) ?_
    have e1 := hc (R (m - 1) + 1)
    have e2 := hc (R (m - 1))
    unfold ctR lt at e1 e2
    rw [← e1, ← e2]
    exact ct_more (f := R) (k := m - 1) (by omega) rfl
  obtain ⟨j0, hj0, hg0⟩ := hex
  unfold ten
  rcases tnF_is b i t hg (gp b i) with ⟨_, h4⟩ | ⟨j, hj, h4, h5, h6⟩
  · exact absurd ((hq _).mpr (by rw [hg0]; exact Int.le_refl _)) (h4 j0 hj0)
  · have a1 := (hq _).mp h5
    have a2 := h6 j0 hj0 ((hq _).mpr (by rw [hg0]; exact Int.le_refl _))
    rw [h4]; omega
theorem c_lengthAbove {σ : SS} {g : Nat} {b : BT} {K : SS → Int32 → Prop} (hB : BB b) {i : Nat} (hi : i < nc b) (hR : RG σ g b i) {t : Int} (ht : 1 ≤ t ∧ t ≤ 10) (h : K σ (iz (if gp b i = 0 then -1 else ten b i t + 1))) : wp_X2_lengthAbove σ g (iz t) K := by
  have rg := gp_rng hB i
  obtain ⟨R, hS, hs, hc⟩ := hR
  have rm := mul_rng (x := t) (y := (gp b i : Int)) (A := 10) (B := 16) (by omega) (by omega)
  have rm2 : (gp b i : Int) ≤ t * (gp b i : Int) := by
    have := Int.mul_le_mul_of_nonneg_right ht.1 (show (0 : Int) ≤ (gp b i : Int) by omega); omega
  have rm3 : t * (gp b i : Int) ≤ 10 * (gp b i : Int) := Int.mul_le_mul_of_nonneg_right ht.2 (by omega)
  unfold wp_X2_lengthAbove
  rw [hS.1]
  have e9 : (iz t * iz (gp b i : Int) + 9) / 10 = iz ((t * (gp b i : Int) + 9) / 10) := by
    simp only [ize, iz_mul, iz_add]; rw [iz_div (by omega)]
  rw [e9]
  simp only [ize, iz_sub]
  obtain ⟨m, hm⟩ := Int.eq_ofNat_of_zero_le (show 0 ≤ (t * (gp b i : Int) + 9) / 10 by omega)
  rw [hm]
  refine clt (by omega) (fun e => ?_) (fun e => clt (by omega) (fun e2 => ?_) (fun e2 => ?_))
  · rw [if_pos (by omega)] at h; exact h
  · omega
  · have hg : ¬ gp b i = 0 := by omega
    rw [if_neg hg, ten_is (fun j => (gap_rng hB hi).1) hs hc (m := m) (by omega) (by omega) (by omega)] at h
    have e1 : (m : Int) - 1 = ((m - 1 : Nat) : Int) := by omega
    rw [e1, iz_cl (by omega), (hS.2 (m - 1) (by omega)).1, iz_add]
    exact ⟨iz_in (by omega), h⟩
