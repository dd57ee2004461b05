/-! ===== the class: its state, what is worked out once and kept ===== -/
def CB (σ : SS) (b : BT) : Prop := gI σ 0 1 = iz (bN b) ∧ (∀ k, gA σ 1 k = iz (bD b k)) ∧ gI σ 0 2 = iz (bP b) ∧ gI σ 0 3 = iz (bW b) ∧ gI σ 0 4 = iz (bS b)
def CWt (σ : SS) (w : WT) : Prop := gI σ 0 6 = iz (wN w) ∧ ∀ k, k < 5 → gI σ (26 + 6 * k) 0 = iz (wS w k) ∧ gI σ (26 + 6 * k) 1 = iz (wM w k) ∧ gI σ (26 + 6 * k) 2 = iz (wO w k) ∧ gI σ (26 + 6 * k) 3 = iz (wF w k)
/-- followed: arrivals and diaries hold what is meant -/
def FO (σ : SS) (b : BT) (w : WT) : Prop := gI σ 0 10 = iz 1 ∧ CA σ 5 b ∧ ∀ k, k < wN w → CD σ (27 + 6 * k) b (wS w k) (wM w k)
def WK (σ : SS) (b : BT) (w : WT) : Prop := gI σ 0 12 = iz 1 ∧ ∀ p : Nat, 1 ≤ p → p ≤ 50 → gA σ 4 p = bitF (kpt (bp b p) w) (wN w)
def CI0 (σ : SS) (b : BT) (w : WT) : Prop := (CB σ b ∧ CWt σ w) ∧ (gI σ 0 10 = iz 0 ∨ FO σ b w) ∧ (gI σ 0 12 = iz 0 ∨ WK σ b w)
/-- the same but for what is worked out -/
def cq (σ σ' : SS) : Prop := ((∀ k, (k = 10 ∨ k = 12) ∨ gI σ' 0 k = gI σ 0 k) ∧ gA σ' 1 = gA σ 1) ∧ (∀ k, k < 5 → ∀ j, gI σ' (26 + 6 * k) j = gI σ (26 + 6 * k) j) ∧ (∀ p, 56 ≤ p → (∀ j, gI σ' p j = gI σ p j) ∧ gA σ' p = gA σ p) ∧ σ'.2.2 = σ.2.2
theorem cq_r (σ : SS) : cq σ σ := ⟨⟨fun _ => Or.inr rfl, rfl⟩, fun _ _ _ => rfl, fun _ _ => ⟨fun _ => rfl, rfl⟩, rfl⟩
theorem cq_t {σ σ' σ'' : SS} (h : cq σ σ') (h2 : cq σ' σ'') : cq σ σ'' :=
  ⟨⟨fun k => (h2.1.1 k).elim Or.inl (fun e => (h.1.1 k).elim Or.inl (fun e2 => Or.inr (e.trans e2))), h2.1.2.trans h.1.2⟩, fun k hk j => (h2.2.1 k hk j).trans (h.2.1 k hk j), fun p hp => ⟨fun j => ((h2.2.2.1 p hp).1 j).trans ((h.2.2.1 p hp).1 j), (h2.2.2.1 p hp).2.trans (h.2.2.1 p hp).2⟩, h2.2.2.2.trans h.2.2.2⟩
theorem cq_ag {l u : Nat} {σ σ' : SS} (h : ag l u σ σ') (h1 : 2 ≤ l ∧ u ≤ 56) (h2 : ∀ k, k < 5 → 26 + 6 * k < l ∨ u ≤ 26 + 6 * k) : cq σ σ' :=
  ⟨⟨fun k => Or.inr (ag_I h (by omega) k), ag_A h (by omega)⟩, fun k hk j => ag_I h (h2 k hk) j, fun p hp => ⟨fun j => ag_I h (by omega) j, ag_A h (by omega)⟩, h.2⟩
theorem cq_s {σ : SS} {k : Nat} {v : Int32} (hk : k = 10 ∨ k = 12) : cq σ (sI σ 0 k v) :=
  ⟨⟨fun j => by
    by_cases e : j = k
    · left; omega
    · exact Or.inr (gI_sI_k _ _ _ _ e), rfl⟩, fun k hk j => gI_sI_p _ _ _ _ (by omega), fun p hp => ⟨fun j => gI_sI_p _ _ _ _ (by omega), rfl⟩, rfl⟩
theorem CB_cq {σ σ' : SS} {b : BT} (h : cq σ σ') (hC : CB σ b) : CB σ' b := by
  obtain ⟨h1, h2, h3, h4, h5⟩ := hC
  have e : ∀ k, ¬ (k = 10 ∨ k = 12) → gI σ' 0 k = gI σ 0 k := fun k hk => (h.1.1 k).resolve_left hk
  exact ⟨(e 1 (by decide)).trans h1, fun k => by rw [h.1.2]; exact h2 k, (e 2 (by decide)).trans h3, (e 3 (by decide)).trans h4, (e 4 (by decide)).trans h5⟩
theorem CWt_cq {σ σ' : SS} {w : WT} (h : cq σ σ') (hC : CWt σ w) : CWt σ' w :=
  ⟨((h.1.1 6).resolve_left (by decide)).trans hC.1, fun k hk => by rw [h.2.1 k hk, h.2.1 k hk, h.2.1 k hk, h.2.1 k hk]; exact hC.2 k hk⟩
theorem c_followArrivals {σ : SS} {b : BT} {w : WT} {K : SS → Prop} (hB : BB b) (hWB : WB w) (hC : CI0 σ b w) (h : ∀ σ', cq σ σ' → CI0 σ' b w → FO σ' b w → K σ') : wp_X5_followArrivals σ K := by
  obtain ⟨⟨hCB, hCW⟩, hF, hK⟩ := hC
  have r := hWB.1
  unfold wp_X5_followArrivals
  rw [hCB.1, hCB.2.2.1, hCB.2.2.2.1, hCB.2.2.2.2]
  simp only [ize]
  refine ⟨fun e => ?_, fun e => ?_⟩
  · refine c_follow hB (by omega) hCB.2.1 (fun σ1 hp1 hA1 => ?_)
    have hq1 : cq σ σ1 := cq_ag hp1 (by omega) (fun k hk => by omega)
    refine fx2_i (fun σ2 x1 => cq σ σ2 ∧ gA σ2 4 = gA σ 4 ∧ gI σ2 0 12 = gI σ 0 12 ∧ CA σ2 5 b ∧ ∃ k : Nat, k ≤ wN w ∧ x1 = iz k ∧ ∀ j, j < k → CD σ2 (27 + 6 * j) b (wS w j) (wM w j)) (fun _ x1 => 50 - x1.toNatClampNeg) ?_ _ _ ⟨hq1, ag_A hp1 (by omega), ag_I hp1 (by omega) 12, hA1, 0, Nat.zero_le _, rfl, fun j hj => absurd hj (Nat.not_lt_zero j)⟩
    rintro L σ2 x1 ⟨hq, h4, h12, hA2, k, hk, rfl, hD⟩ hL
    have hCW2 := CWt_cq hq hCW
    unfold lb_X5_followArrivals_37
    rw [hCW2.1]
    simp only [ize]
    refine cle (by omega) (fun e2 => ?_) (fun e2 => ?_)
    · have e3 : k = wN w := by omega
      subst e3
      have hag : ag 0 1 σ2 (sI σ2 0 10 (iz 1)) := ag_sI (by omega)
      have hq3 : cq σ (sI σ2 0 10 (iz 1)) := cq_t hq (cq_s (Or.inl rfl))
      have hFO : FO (sI σ2 0 10 (iz 1)) b w := ⟨gI_sI_s _ _ _ _, CA_ag hag (by omega) hA2, fun j hj => CD_ag hag (by omega) (hD j hj)⟩
      refine h _ hq3 ⟨⟨CB_cq hq3 hCB, CWt_cq hq3 hCW⟩, Or.inr hFO, ?_⟩ hFO
      rcases hK with e4 | e4
      · left; rw [gI_sI_k _ _ _ _ (by decide), h12]; exact e4
      · right; exact ⟨by rw [gI_sI_k _ _ _ _ (by decide), h12]; exact e4.1, fun p h1 h2 => by rw [gA_sI, h4]; exact e4.2 p h1 h2⟩
    · have hk2 : k < wN w := by omega
      rw [iz_cl (by omega), (hCW2.2 k (by omega)).1, (hCW2.2 k (by omega)).2.1]
      refine ⟨iz_in (by omega), iz_in (by omega), iz_in (by omega), ?_⟩
      rw [show 26 + 6 * k + 1 = 27 + 6 * k by omega]
      refine c_keep hB (hWB.2 k hk2).1 hA2 (by omega) (fun σ3 hp3 hD3 => ?_)
      refine hL _ _ ⟨cq_t hq (cq_ag hp3 (by omega) (fun j hj => by omega)), (ag_A hp3 (by omega)).trans h4, (ag_I hp3 (by omega) 12).trans h12, CA_ag hp3 (by omega) hA2, k + 1, by omega, iz_s k, fun j hj => ?_⟩ ?_
      · by_cases q : j = k
        · subst q; exact hD3
        · exact CD_ag hp3 (by omega) (hD j (by omega))
      · rw [iz_s, iz_cl (by omega), iz_cl (by omega)]; omega
  · rcases hF with e2 | e2
    · exact absurd e2 e
    · exact h σ (cq_r σ) ⟨⟨hCB, hCW⟩, Or.inr e2, hK⟩ e2
theorem c_keepsWishes {σ : SS} {p0 p1 : Nat} {b : BT} {so ms no fe : Int} {K : SS → Int32 → Prop} (hB : BB b) (hw : okW so ms) (hD : CD σ p1 b so ms) (h2 : gI σ p0 2 = iz no) (h3 : gI σ p0 3 = iz fe) (hr : (-1 ≤ no ∧ no ≤ 500) ∧ -1 ≤ fe ∧ fe ≤ 40) (h : K σ (bz (kep b so ms no fe))) : wp_X4_keepsWishes σ p0 p1 K := by
  have r3 := lg_rng hB hw _ (Nat.le_refl _)
  have r4 := mc_le b so ms (nc b)
  have r5 := nc_40 hB
  have k19 : (kep b so ms no fe = (decide (fe = -1) || decide ((mc b so ms (nc b) : Int) ≤ fe))) → bl_X4_keepsWishes_19 K p0 p1 σ := by
    intro e
    rw [e] at h
    unfold bl_X4_keepsWishes_19
    rw [h3, hD.1.1]
    simp only [ize]
    refine ceq (by omega) (fun e1 => ?_) (fun e1 => clt (by omega) (fun e2 => ?_) (fun e2 => ?_))
    · rw [show (decide (fe = -1) || decide ((mc b so ms (nc b) : Int) ≤ fe)) = true by simp [e1]] at h; exact h
    · rw [show (decide (fe = -1) || decide ((mc b so ms (nc b) : Int) ≤ fe)) = false by simp [e1]; omega] at h; exact h
    · rw [show (decide (fe = -1) || decide ((mc b so ms (nc b) : Int) ≤ fe)) = true by simp [e1]; omega] at h; exact h
  unfold wp_X4_keepsWishes
  rw [h2, hD.1.2.2.2.1]
  simp only [ize]
  refine ceq (by omega) (fun e1 => k19 (by simp [kep, e1])) (fun e1 => clt (by omega) (fun e2 => ?_) (fun e2 => k19 (by simp [kep]; omega)))
  rw [show kep b so ms no fe = false by simp [kep, e1]; omega] at h; exact h
theorem FO_ag {l u : Nat} {σ σ' : SS} {b : BT} {w : WT} (h : ag l u σ σ') (h1 : 13 ≤ l ∧ u ≤ 26) (hF : FO σ b w) : FO σ' b w :=
  ⟨(ag_I h (by omega) 10).trans hF.1, CA_ag h (by omega) hF.2.1, fun k hk => CD_ag h (by omega) (hF.2.2 k hk)⟩
theorem FO_ag4 {l u : Nat} {σ σ' : SS} {b : BT} {w : WT} (h : ag l u σ σ') (h1 : 1 ≤ l ∧ u ≤ 5) (hF : FO σ b w) : FO σ' b w :=
  ⟨(ag_I h (by omega) 10).trans hF.1, CA_ag h (by omega) hF.2.1, fun k hk => CD_ag h (by omega) (hF.2.2 k hk)⟩
/-- what a question leaves behind -/
def rd (σ σ' : SS) (b : BT) (w : WT) : Prop := cq σ σ' ∧ CI0 σ' b w ∧ (FO σ b w → FO σ' b w)
theorem rd_r {σ : SS} {b : BT} {w : WT} (h : CI0 σ b w) : rd σ σ b w := ⟨cq_r σ, h, fun x => x⟩
theorem rd_t {σ σ' σ'' : SS} {b : BT} {w : WT} (h : rd σ σ' b w) (h2 : rd σ' σ'' b w) : rd σ σ'' b w := ⟨cq_t h.1 h2.1, h2.2.1, fun x => h2.2.2 (h.2.2 x)⟩
theorem c_weighPeriods {σ : SS} {b : BT} {w : WT} {K : SS → Prop} (hB : BB b) (hWB : WB w) (hC : CI0 σ b w) (h : ∀ σ', rd σ σ' b w → WK σ' b w → K σ') : wp_X5_weighPeriods σ K := by
  obtain ⟨⟨hCB, hCW⟩, hF, hK⟩ := id hC
  have r := hWB.1
  unfold wp_X5_weighPeriods
  simp only [ize]
  refine ⟨fun e => ?_, fun e => ?_⟩
  · refine fx2_i (fun σ2 x1 => cq σ σ2 ∧ gI σ2 0 12 = gI σ 0 12 ∧ gI σ2 0 10 = gI σ 0 10 ∧ (FO σ b w → FO σ2 b w) ∧ ∃ p : Nat, (1 ≤ p ∧ p ≤ 51) ∧ x1 = iz p ∧ ∀ q : Nat, 1 ≤ q → q < p → gA σ2 4 q = bitF (kpt (bp b q) w) (wN w)) (fun _ x1 => 100 - x1.toNatClampNeg) ?_ _ _ ⟨cq_r σ, rfl, rfl, fun x => x, 1, ⟨Nat.le_refl _, by omega⟩, rfl, fun q h1 h2 => by omega⟩
    rintro L σ2 x1 ⟨hq, h12, h10, hF2, p, hp, rfl, hj⟩ hL
    have hCW2 := CWt_cq hq hCW
    have hCB2 := CB_cq hq hCB
    unfold lb_X5_weighPeriods_10
    rw [hCB2.1, hCB2.2.2.2.1, hCB2.2.2.2.2]
    simp only [ize]
    refine clt (by omega) (fun e2 => ?_) (fun e2 => ?_)
    · have e3 : p = 51 := by omega
      subst e3
      have hq3 : cq σ (sI σ2 0 12 (iz 1)) := cq_t hq (cq_s (Or.inr rfl))
      have hWK : WK (sI σ2 0 12 (iz 1)) b w := ⟨gI_sI_s _ _ _ _, fun p h1 h2 => hj p h1 (by omega)⟩
      have hFF : FO σ2 b w → FO (sI σ2 0 12 (iz 1)) b w := fun x => ⟨by rw [gI_sI_k _ _ _ _ (by decide)]; exact x.1, CA_ag (ag_sI (l := 0) (u := 1) (by omega)) (by omega) x.2.1, fun k hk => CD_ag (ag_sI (l := 0) (u := 1) (by omega)) (by omega) (x.2.2 k hk)⟩
      refine h _ ⟨hq3, ⟨⟨CB_cq hq3 hCB, CWt_cq hq3 hCW⟩, ?_, Or.inr hWK⟩, fun x => hFF (hF2 x)⟩ hWK
      rcases hF with e4 | e4
      · left; rw [gI_sI_k _ _ _ _ (by decide), h10]; exact e4
      · right; exact hFF (hF2 e4)
    · have hB2 := bp_B hB (p := (p : Int)) (by omega)
      refine c_follow (b := bp b p) hB2 (by omega) hCB2.2.1 (fun σ3 hp3 hA3 => ?_)
      rw [iz_cl (by omega)]
      refine ⟨iz_in (by omega), ?_⟩
      have hag4 : ag 4 5 σ3 (sA σ3 4 p (iz 0)) := ag_sA (by omega)
      have hq3 : cq σ2 σ3 := cq_ag hp3 (by omega) (fun j hj => by omega)
      have hq4 : cq σ3 (sA σ3 4 p (iz 0)) := cq_ag hag4 (by omega) (fun j hj => by omega)
      refine fx3_i (fun σ5 x1 x2 => x1 = iz p ∧ cq σ σ5 ∧ gI σ5 0 12 = gI σ 0 12 ∧ gI σ5 0 10 = gI σ 0 10 ∧ (FO σ b w → FO σ5 b w) ∧ CA σ5 13 (bp b p) ∧ (∀ q : Nat, 1 ≤ q → q < p → gA σ5 4 q = bitF (kpt (bp b q) w) (wN w)) ∧ ∃ k : Nat, k ≤ wN w ∧ x2 = iz k ∧ gA σ5 4 p = bitF (kpt (bp b p) w) k) (fun _ _ x2 => 50 - x2.toNatClampNeg) ?_ _ _ _ ⟨rfl, cq_t hq (cq_t hq3 hq4), (ag_I hag4 (by omega) 12).trans ((ag_I hp3 (by omega) 12).trans h12), (ag_I hag4 (by omega) 10).trans ((ag_I hp3 (by omega) 10).trans h10), fun x => FO_ag4 hag4 (by omega) (FO_ag hp3 (by omega) (hF2 x)), CA_ag hag4 (by omega) hA3, fun q h1 h2 => by rw [gA_sA_s, upd_n _ _ (by omega), ag_A hp3 (by omega)]; exact hj q h1 h2, 0, Nat.zero_le _, rfl, by rw [gA_sA_s, upd_s]; rfl⟩
      rintro L2 σ5 x1 x2 ⟨rfl, hq5, g12, g10, hF5, hA5, hj5, k, hk, rfl, hb5⟩ hL2
      have hCW5 := CWt_cq hq5 hCW
      unfold lb_X5_weighPeriods_49
      rw [hCW5.1]
      simp only [ize]
      refine cle (by omega) (fun e3 => ?_) (fun e3 => ?_)
      · have e4 : k = wN w := by omega
        subst e4
        refine hL _ _ ⟨hq5, g12, g10, hF5, p + 1, ⟨by omega, by omega⟩, iz_s p, fun q h1 h2 => ?_⟩ ?_
        · by_cases q5 : q = p
          · subst q5; exact hb5
          · exact hj5 q h1 (by omega)
        · rw [iz_s, iz_cl (by omega), iz_cl (by omega)]; omega
      · have hk2 : k < wN w := by omega
        have hwk := hWB.2 k hk2
        rw [iz_cl (show k < 2147483648 by omega), (hCW5.2 k (by omega)).1, (hCW5.2 k (by omega)).2.1]
        refine ⟨iz_in (by omega), c_keep hB2 hwk.1 hA5 (by omega) (fun σ6 hp6 hD6 => ?_)⟩
        have hmu : 50 - (iz (k : Int) + iz 1).toNatClampNeg < 50 - (iz (k : Int)).toNatClampNeg := by
          rw [iz_s, iz_cl (by omega), iz_cl (by omega)]; omega
        have hq6 : cq σ5 σ6 := cq_ag hp6 (by omega) (fun j hj => by omega)
        have hCW6 := CWt_cq hq6 hCW5
        have a4 : gA σ6 4 = gA σ5 4 := ag_A hp6 (by omega)
        have hF6 : FO σ b w → FO σ6 b w := fun x => FO_ag hp6 (by omega) (hF5 x)
        refine c_keepsWishes hB2 hwk.1 hD6 (hCW6.2 k (by omega)).2.2.1 (hCW6.2 k (by omega)).2.2.2 hwk.2 (bz_d (fun e4 => ?_) (fun e4 => ?_))
        · rw [iz_cl (show p < 2147483648 by omega)]
          refine ⟨iz_in (by omega), iz_in (by omega), ?_⟩
          have hag7 : ag 4 5 σ6 (sA σ6 4 p (gA σ6 4 p ||| iz 1 <<< (iz (k : Int) &&& 31))) := ag_sA (by omega)
          refine hL2 _ _ _ ⟨rfl, cq_t hq5 (cq_t hq6 (cq_ag hag7 (by omega) (fun j hj => by omega))), (ag_I hp6 (by omega) 12).trans g12, (ag_I hp6 (by omega) 10).trans g10, fun x => FO_ag4 hag7 (by omega) (hF6 x), CA_ag hag7 (by omega) (CA_ag hp6 (by omega) hA5), fun q h1 h2 => by rw [gA_sA_s, upd_n _ _ (by omega), a4]; exact hj5 q h1 h2, k + 1, by omega, iz_s k, ?_⟩ hmu
          rw [gA_sA_s, upd_s, a4, hb5, bitF, if_pos (show kpt (bp b p) w k = true from e4)]; rfl
        · refine hL2 _ _ _ ⟨rfl, cq_t hq5 hq6, (ag_I hp6 (by omega) 12).trans g12, (ag_I hp6 (by omega) 10).trans g10, hF6, CA_ag hp6 (by omega) hA5, fun q h1 h2 => by rw [a4]; exact hj5 q h1 h2, k + 1, by omega, iz_s k, ?_⟩ hmu
          rw [a4, hb5, bitF, if_neg (by rw [show kpt (bp b p) w k = false from e4]; decide)]
  · rcases hK with e2 | e2
    · exact absurd e2 e
    · exact h σ (rd_r hC) e2
