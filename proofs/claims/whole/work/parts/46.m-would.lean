/-! ===== the reference: doubts, noticed, least, greatest, saved, counts ===== -/
def bitF (P : Nat → Bool) : Nat → Int32
  | 0 => 0
  | k + 1 => if P k then bitF P k ||| ((1 : Int32) <<< (iz k &&& 31)) else bitF P k
def addF (P : Nat → Bool) : Nat → Int32
  | 0 => 0
  | k + 1 => if P k then addF P k + ((1 : Int32) <<< (iz k &&& 31)) else addF P k
theorem add_bit (P : Nat → Bool) {n : Nat} (hn : n ≤ 5) : addF P n = bitF P n := by
  match n, hn with
  | 0, _ => rfl
  | 1, _ => simp only [addF, bitF]; generalize P 0 = a0; revert a0; decide +kernel
  | 2, _ => simp only [addF, bitF]; generalize P 0 = a0; generalize P 1 = a1; revert a0 a1; decide +kernel
  | 3, _ => simp only [addF, bitF]; generalize P 0 = a0; generalize P 1 = a1; generalize P 2 = a2; revert a0 a1 a2; decide +kernel
  | 4, _ => simp only [addF, bitF]; generalize P 0 = a0; generalize P 1 = a1; generalize P 2 = a2; generalize P 3 = a3; revert a0 a1 a2 a3; decide +kernel
  | 5, _ => simp only [addF, bitF]; generalize P 0 = a0; generalize P 1 = a1; generalize P 2 = a2; generalize P 3 = a3; generalize P 4 = a4; revert a0 a1 a2 a3 a4; decide +kernel
def dts (b : BT) (w : WT) (t : Int) : Int32 := bitF (fun k => db b (wS w k) (wM w k) t) (wN w)
theorem m_doubtsAt {τ : SS} {b : BT} {w : WT} {K : SS → Int32 → Prop} (hM : MB τ b) (hB : BB b) (hW : MW τ w) (hWB : WB w) {t : Int} (ht : 0 ≤ t ∧ t ≤ 6000) (h : ∀ τ', pe τ τ' → K τ' (dts b w t)) : wp_X6_doubtsAt τ (iz t) K := by
  have r := hWB.1
  unfold wp_X6_doubtsAt
  refine fx4_i (fun σ x1 x2 x3 => pe τ σ ∧ x1 = iz t ∧ ∃ k : Nat, k ≤ wN w ∧ x3 = iz k ∧ x2 = bitF (fun k => db b (wS w k) (wM w k) t) k) (fun _ _ _ x3 => 50 - x3.toNatClampNeg) ?_ _ _ _ _ ⟨pe_r τ, rfl, 0, Nat.zero_le _, rfl, rfl⟩
  rintro L σ x1 x2 x3 ⟨hp, rfl, k, hk, rfl, rfl⟩ hL
  have hW1 := MW_pe hp hW
  unfold lb_X6_doubtsAt_4
  rw [hW1.1]
  refine cle (by omega) (fun e => ?_) (fun e => ?_)
  · have e3 : k = wN w := by omega
    subst e3
    exact h σ hp
  · have hmu : 50 - (iz (k : Int) + 1).toNatClampNeg < 50 - (iz (k : Int)).toNatClampNeg := by
      rw [ize.2.1, iz_s, iz_cl (by omega), iz_cl (by omega)]; omega
    refine m_isDoubting (MB_pe hp hM) hB hW1 hWB (by omega) ht (fun τ1 hp1 => bz_d (fun e1 => ?_) (fun e1 => ?_))
    · exact hL _ _ _ _ ⟨pe_t hp hp1, rfl, k + 1, by omega, iz_s k, by rw [bitF, if_pos e1]⟩ hmu
    · exact hL _ _ _ _ ⟨pe_t hp hp1, rfl, k + 1, by omega, iz_s k, by rw [bitF, e1]; simp⟩ hmu
def ntc (b : BT) (so ms : Int) : Int := if bS b = -1 ∨ fg b so ms = -1 then -1 else if fg b so ms < bS b then 0 else fg b so ms - bS b
theorem m_noticedOf {τ : SS} {b : BT} {w : WT} {K : SS → Int32 → Prop} (hM : MB τ b) (hB : BB b) (hW : MW τ w) (hWB : WB w) {k : Nat} (hk : k < wN w) (h : ∀ τ', pe τ τ' → K τ' (iz (ntc b (wS w k) (wM w k)))) : wp_X6_noticedOf τ (iz k) K := by
  have rf := fg_rng hB (hWB.2 k hk).1
  have rs := hB.2.2.1
  unfold wp_X6_noticedOf
  refine m_forGood hM hB hW hWB hk (fun τ1 hp => ?_)
  have h1 := h τ1 hp
  rw [(MB_pe hp hM).2.2.2.2]
  simp only [ize, iz_sub]
  refine ceq (by omega) (fun e => ?_) (fun e => cne (by omega) (fun e2 => cle (by omega) (fun e3 => ?_) (fun e3 => ?_)) (fun e2 => ?_))
  · rw [show ntc b (wS w k) (wM w k) = -1 from if_pos (Or.inl e)] at h1; exact h1
  · rw [show ntc b (wS w k) (wM w k) = fg b (wS w k) (wM w k) - bS b by unfold ntc; rw [if_neg (by omega), if_neg (by omega)]] at h1; exact h1
  · rw [show ntc b (wS w k) (wM w k) = 0 by unfold ntc; rw [if_neg (by omega), if_pos (by omega)]] at h1; exact h1
  · rw [show ntc b (wS w k) (wM w k) = -1 from if_pos (Or.inr e2)] at h1; exact h1
def okB (so ms : Int) : Bool := (decide (so = 0) && decide (0 ≤ ms ∧ ms ≤ 99)) || ((decide (so = 1) && decide (1 ≤ ms ∧ ms ≤ 10)) || ((decide (so = 2) && decide (1 ≤ ms ∧ ms ≤ 200)) || (decide (so = 3) && decide (0 ≤ ms ∧ ms ≤ 30))))
theorem okB_iff {so ms : Int} : okB so ms = true ↔ okW so ms := by simp [okB, okW]
theorem m_isMeasure {τ : SS} {K : SS → Int32 → Prop} {so ms : Int} (hs : -2147483648 ≤ so ∧ so < 2147483648) (hm : -2147483648 ≤ ms ∧ ms < 2147483648) (h : K τ (bz (okB so ms))) : wp_X6_isMeasure τ (iz so) (iz ms) K := by
  unfold wp_X6_isMeasure
  simp only [ize]
  refine ⟨?_, ?_, ?_, ?_⟩
  · rw [iz_eq (by omega)]; intro e; subst e
    refine m_in hm (by omega) ⟨bz_or _, ?_⟩
    rw [show okB 0 ms = decide (0 ≤ ms ∧ ms ≤ 99) by simp [okB]] at h; exact h
  · rw [iz_eq (by omega)]; intro e; subst e
    refine m_in hm (by omega) ⟨bz_or _, ?_⟩
    rw [show okB 1 ms = decide (1 ≤ ms ∧ ms ≤ 10) by simp [okB]] at h; exact h
  · rw [iz_eq (by omega)]; intro e; subst e
    refine m_in hm (by omega) ⟨bz_or _, ?_⟩
    rw [show okB 2 ms = decide (1 ≤ ms ∧ ms ≤ 200) by simp [okB]] at h; exact h
  · rw [iz_eq (by omega), iz_eq (by omega), iz_eq (by omega)]
    intro e0 e1 e2
    refine cne (by omega) (fun e3 => ?_) (fun e3 => ?_)
    · rw [show okB so ms = false by simp [okB, e0, e1, e2, e3]] at h; exact h
    · subst e3
      refine m_in hm (by omega) ?_
      rw [show okB 3 ms = decide (0 ≤ ms ∧ ms ≤ 30) by simp [okB]] at h
      refine bz_d (fun e4 => ?_) (fun e4 => ?_)
      · rw [e4] at h; exact h
      · rw [e4] at h; exact h
def lsP (b : BT) (so m : Int) (v : Nat) : Bool := decide ((mc b so (v : Int) (nc b) : Int) ≤ m)
def lst (b : BT) (so m : Int) : Int := if so = 0 then leF (lsP b so m) 100 0 else if so = 1 then leF (lsP b so m) 10 1 else leF (lsP b so m) 200 1
theorem leF_rng (P : Nat → Bool) : ∀ k v, leF P k v = -1 ∨ ((v : Int) ≤ leF P k v ∧ leF P k v < (v : Int) + k)
  | 0, v => Or.inl rfl
  | k + 1, v => by
    unfold leF
    split
    · right; omega
    · rcases leF_rng P k (v + 1) with h | h
      · exact Or.inl h
      · right; omega
theorem m_leastOf {τ : SS} {b : BT} {K : SS → Int32 → Prop} (hM : MB τ b) (hB : BB b) {so m : Int} (hs : 0 ≤ so ∧ so ≤ 2) (hm : 0 ≤ m ∧ m ≤ 40) (h : ∀ τ', pe τ τ' → K τ' (iz (lst b so m))) : wp_X6_leastOf τ (iz so) (iz m) K := by
  have r5 := nc_40 hB
  have key : ∀ (v0 hi : Nat), hi ≤ 200 → v0 ≤ hi + 1 → (∀ v : Nat, v0 ≤ v → (okB so v = true ↔ v ≤ hi)) → lst b so m = leF (lsP b so m) (hi + 1 - v0) v0 → ∃ n, fx5 (lb_X6_leastOf_13 K) n τ (iz so) (iz m) (iz (-1)) (iz v0) := by
    intro v0 hi h200 hv0 hok hl
    refine fx5_i (fun σ x1 x2 x3 x4 => pe τ σ ∧ x1 = iz so ∧ x2 = iz m ∧ ∃ v : Nat, (v0 ≤ v ∧ v ≤ hi + 1) ∧ x4 = iz v ∧ ((x3 = iz (-1) ∧ lst b so m = leF (lsP b so m) (hi + 1 - v) v) ∨ (x3 = iz (lst b so m) ∧ 0 ≤ lst b so m ∧ lst b so m ≤ 1000))) (fun _ _ _ _ x4 => 300 - x4.toNatClampNeg) ?_ _ _ _ _ _ ⟨pe_r τ, rfl, rfl, v0, ⟨Nat.le_refl _, hv0⟩, rfl, Or.inl ⟨rfl, hl⟩⟩
    rintro L σ x1 x2 x3 x4 ⟨hp, rfl, rfl, v, hv, rfl, hx⟩ hL
    unfold lb_X6_leastOf_13
    simp only [ize]
    refine m_isMeasure (by omega) (by omega) (bz_d (fun e1 => ?_) (fun e1 => ?_))
    · have hvh := (hok v hv.1).mp e1
      rcases hx with ⟨rfl, hx⟩ | ⟨rfl, hx⟩
      · refine cne (by omega) (fun e2 => absurd rfl e2) (fun _ => ?_)
        have hw : okW so v := okB_iff.mp e1
        refine m_goes (MB_pe hp hM) hB hw (fun τ1 hp1 hN hD => ?_)
        have hmc := mc_le b so v (nc b)
        have hmu : 300 - (iz (v : Int) + iz 1).toNatClampNeg < 300 - (iz (v : Int)).toNatClampNeg := by
          rw [iz_s, iz_cl (by omega), iz_cl (by omega)]; omega
        rw [hD.1.1]
        rw [show hi + 1 - v = (hi + 1 - (v + 1)) + 1 by omega] at hx
        refine clt (by omega) (fun e3 => ?_) (fun e3 => ?_)
        · refine hL _ _ _ _ _ ⟨pe_t hp hp1, rfl, rfl, v + 1, ⟨by omega, by omega⟩, iz_s v, Or.inl ⟨rfl, ?_⟩⟩ hmu
          rw [hx, leF, show lsP b so m v = false by simp [lsP]; omega]; rfl
        · refine hL _ _ _ _ _ ⟨pe_t hp hp1, rfl, rfl, v + 1, ⟨by omega, by omega⟩, iz_s v, Or.inr ?_⟩ hmu
          rw [hx, leF, show lsP b so m v = true by simp [lsP]; omega]
          refine ⟨rfl, ?_, ?_⟩ <;> simp <;> omega
      · refine cne (by omega) (fun _ => ?_) (fun e2 => absurd e2 (by omega))
        exact h σ hp
    · rcases hx with ⟨rfl, hx⟩ | ⟨rfl, hx⟩
      · have hvh : ¬ v ≤ hi := fun q => by rw [(hok v hv.1).mpr q] at e1; cases e1
        rw [show hi + 1 - v = 0 by omega] at hx
        have := h σ hp
        rw [hx] at this; exact this
      · exact h σ hp
  unfold wp_X6_leastOf
  simp only [ize]
  refine cne (by omega) (fun e => ?_) (fun e => ?_)
  · by_cases e1 : so = 1
    · subst e1
      exact key 1 10 (by omega) (by omega) (fun v hv => by rw [okB_iff]; unfold okW; omega) (by simp [lst])
    · have e2 : so = 2 := by omega
      subst e2
      exact key 1 200 (by omega) (by omega) (fun v hv => by rw [okB_iff]; unfold okW; omega) (by simp [lst])
  · subst e
    exact key 0 99 (by omega) (by omega) (fun v hv => by rw [okB_iff]; unfold okW; omega) (by simp [lst])
/-- the same beats with another period -/
def bp (b : BT) (p : Int) : BT := (bD b, bN b, p, bS b, bW b)
theorem bp_B {b : BT} (h : BB b) {p : Int} (hp : 1 ≤ p ∧ p ≤ 50) : BB (bp b p) := ⟨h.1, hp, h.2.2⟩
/-- n watchers from f on keep their wishes -/
def alW (b : BT) (w : WT) (f : Nat) : Nat → Bool
  | 0 => true
  | n + 1 => alW b w f n && kpt b w (f + n)
def gr (b : BT) (w : WT) (f n : Nat) : Int := grF (fun p => alW (bp b p) w f n) 50
theorem grF_rng (P : Nat → Bool) : ∀ p, grF P p = -1 ∨ (1 ≤ grF P p ∧ grF P p ≤ p)
  | 0 => Or.inl rfl
  | p + 1 => by
    unfold grF
    split
    · right; omega
    · rcases grF_rng P p with h | h
      · exact Or.inl h
      · right; omega
theorem m_greatest {τ : SS} {b : BT} {w : WT} {K : SS → Int32 → Prop} (hM : MB τ b) (hB : BB b) (hW : MW τ w) (hWB : WB w) {f n : Nat} (hf : f + n ≤ wN w) (h : ∀ τ', pe τ τ' → K τ' (iz (gr b w f n))) : wp_X6_greatest τ (iz f) (iz ((f : Int) + n - 1)) K := by
  have r := hWB.1
  have hper := hM.2.2.1
  have hMp : ∀ σ p, pe (sI τ 100 2 (iz p)) σ → MB σ (bp b p) := fun σ p hp => MB_pe hp ⟨by rw [gI_sI_k _ _ _ _ (by decide)]; exact hM.1, hM.2.1, gI_sI_s _ _ _ _, by rw [gI_sI_k _ _ _ _ (by decide)]; exact hM.2.2.2.1, by rw [gI_sI_k _ _ _ _ (by decide)]; exact hM.2.2.2.2⟩
  have hWp : ∀ σ v, pe (sI τ 100 2 v) σ → MW σ w := fun σ v hp => MW_pe hp ⟨by rw [gI_sI_k _ _ _ _ (by decide)]; exact hW.1, hW.2⟩
  have back : ∀ σ v, pe (sI τ 100 2 v) σ → pe τ (sI σ 100 2 (iz (bP b))) := by
    intro σ v hp
    refine ⟨fun k => ?_, fun p => ?_, hp.2.2⟩
    · by_cases q : k = 2
      · subst q; right; rw [gI_sI_s, hper]
      · rcases hp.1 k with e | e
        · exact Or.inl e
        · right; rw [gI_sI_k _ _ _ _ q, e, gI_sI_k _ _ _ _ q]
    · exact hp.2.1 p
  have fwd : ∀ σ u v, pe (sI τ 100 2 u) σ → pe (sI τ 100 2 v) (sI σ 100 2 v) := by
    intro σ u v hp
    refine ⟨fun k => ?_, fun p => hp.2.1 p, hp.2.2⟩
    by_cases q : k = 2
    · subst q; right; rw [gI_sI_s, gI_sI_s]
    · rcases hp.1 k with e | e
      · exact Or.inl e
      · right; rw [gI_sI_k _ _ _ _ q, e, gI_sI_k _ _ _ _ q, gI_sI_k _ _ _ _ q]
  unfold wp_X6_greatest
  rw [hper]
  simp only [ize]
  refine fx6_i (fun σ x1 x2 x3 x4 x5 => x1 = iz f ∧ x2 = iz ((f : Int) + n - 1) ∧ x3 = iz (bP b) ∧ (∃ v, pe (sI τ 100 2 v) σ) ∧ ∃ p : Nat, p ≤ 50 ∧ x5 = iz p ∧ ((x4 = iz (-1) ∧ gr b w f n = grF (fun p => alW (bp b p) w f n) p) ∨ (x4 = iz (gr b w f n) ∧ 1 ≤ gr b w f n ∧ gr b w f n ≤ 50))) (fun _ _ _ _ _ x5 => x5.toNatClampNeg + 1) ?_ _ _ _ _ _ _ ⟨rfl, rfl, rfl, ⟨gI τ 100 2, ⟨fun k => Or.inr (by rw [gI_sI]; split <;> simp_all), fun p => Or.inr rfl, rfl⟩⟩, 50, Nat.le_refl _, rfl, Or.inl ⟨rfl, rfl⟩⟩
  rintro L σ x1 x2 x3 x4 x5 ⟨rfl, rfl, rfl, ⟨v, hp⟩, p, hp50, rfl, hx⟩ hL
  unfold lb_X6_greatest_12
  simp only [ize]
  refine cle (by omega) (fun e => ?_) (fun e => ?_)
  · have e0 : p = 0 := by omega
    subst e0
    rcases hx with ⟨rfl, hx⟩ | ⟨rfl, hx⟩
    · have := h _ (back σ v hp)
      rw [hx] at this; exact this
    · exact h _ (back σ v hp)
  · rcases hx with ⟨rfl, hx⟩ | ⟨rfl, hx⟩
    · refine cne (by omega) (fun e2 => absurd rfl e2) (fun _ => ?_)
      have hB2 := bp_B hB (p := p) (by omega)
      obtain ⟨p', rfl⟩ : ∃ p', p = p' + 1 := ⟨p - 1, by omega⟩
      have hmu : (iz ((p' + 1 : Nat) : Int) + iz (-1)).toNatClampNeg + 1 < (iz ((p' + 1 : Nat) : Int)).toNatClampNeg + 1 := by
        rw [iz_add, show ((p' + 1 : Nat) : Int) + -1 = (p' : Int) by omega, iz_cl (by omega), iz_cl (by omega)]; omega
      have e5 : iz ((p' + 1 : Nat) : Int) + iz (-1) = iz (p' : Int) := by rw [iz_add]; congr 1; omega
      refine fx7_i (fun σ x1 x2 x3 x5 x6 x7 => x1 = iz f ∧ x2 = iz ((f : Int) + n - 1) ∧ x3 = iz (bP b) ∧ x5 = iz ((p' + 1 : Nat) : Int) ∧ pe (sI τ 100 2 (iz ((p' + 1 : Nat) : Int))) σ ∧ ∃ k : Nat, k ≤ n ∧ x7 = iz ((f + k : Nat) : Int) ∧ x6 = bz (alW (bp b ((p' + 1 : Nat) : Int)) w f k)) (fun _ _ _ _ _ _ x7 => 50 - x7.toNatClampNeg) ?_ _ _ _ _ _ _ _ ⟨rfl, rfl, rfl, rfl, fwd _ _ _ hp, 0, Nat.zero_le _, rfl, rfl⟩
      rintro L2 σ2 x1 x2 x3 x5 x6 x7 ⟨rfl, rfl, rfl, rfl, hp2, k, hk, rfl, rfl⟩ hL2
      unfold lb_X6_greatest_35
      simp only [ize]
      refine clt (by omega) (fun e1 => ?_) (fun e1 => ?_)
      · have e3 : k = n := by omega
        subst e3
        unfold bl_X6_greatest_68
        simp only [ize]
        refine bz_d (fun e4 => ?_) (fun e4 => ?_)
        · refine hL _ _ _ _ _ _ ⟨rfl, rfl, rfl, ⟨_, hp2⟩, p', by omega, e5, Or.inr ?_⟩ hmu
          rw [hx, grF, if_pos e4]
          exact ⟨rfl, by omega, by omega⟩
        · refine hL _ _ _ _ _ _ ⟨rfl, rfl, rfl, ⟨_, hp2⟩, p', by omega, e5, Or.inl ⟨rfl, ?_⟩⟩ hmu
          rw [hx, grF, e4]; rfl
      · have hmu2 : 50 - (iz ((f + k : Nat) : Int) + iz 1).toNatClampNeg < 50 - (iz ((f + k : Nat) : Int)).toNatClampNeg := by
          rw [iz_s, iz_cl (by omega), iz_cl (by omega)]; omega
        have e6 : iz ((f + k : Nat) : Int) + iz 1 = iz ((f + (k + 1) : Nat) : Int) := by rw [iz_s]; rfl
        refine bz_d (fun e2 => ?_) (fun e2 => ?_)
        · refine m_isKept (hMp _ _ hp2) hB2 (hWp _ _ hp2) hWB (by omega) (fun τ1 hp1 => bz_d (fun e3 => ?_) (fun e3 => ?_))
          · exact hL2 _ _ _ _ _ _ _ ⟨rfl, rfl, rfl, rfl, pe_t hp2 hp1, k + 1, by omega, e6, by rw [alW, e2, e3]; rfl⟩ hmu2
          · exact hL2 _ _ _ _ _ _ _ ⟨rfl, rfl, rfl, rfl, pe_t hp2 hp1, k + 1, by omega, e6, by rw [alW, e2, e3]; rfl⟩ hmu2
        · exact hL2 _ _ _ _ _ _ _ ⟨rfl, rfl, rfl, rfl, hp2, k + 1, by omega, e6, by rw [alW, e2]; rfl⟩ hmu2
    · refine cne (by omega) (fun _ => ?_) (fun e2 => absurd e2 (by omega))
      exact h _ (back σ v hp)
def shr (b : BT) (w : WT) : Int := gr b w 0 (wN w)
theorem m_sharedNow {τ : SS} {b : BT} {w : WT} {K : SS → Int32 → Prop} (hM : MB τ b) (hB : BB b) (hW : MW τ w) (hWB : WB w) (h : ∀ τ', pe τ τ' → K τ' (iz (shr b w))) : wp_X6_sharedNow τ K := by
  unfold wp_X6_sharedNow
  rw [hW.1]
  simp only [ize, iz_sub]
  have := m_greatest hM hB hW hWB (f := 0) (n := wN w) (by omega) h
  rw [show ((0 : Nat) : Int) + (wN w : Int) - 1 = (wN w : Int) - 1 by omega] at this
  exact this
theorem alW_one {b : BT} {w : WT} {f : Nat} : ∀ {n : Nat}, alW b w f n = true → ∀ k, k < n → alW b w (f + k) 1 = true
  | 0, _, k, hk => absurd hk (Nat.not_lt_zero k)
  | n + 1, h, k, hk => by
    simp only [alW, Bool.and_eq_true] at h
    by_cases e : k = n
    · subst e; simp [alW, h.2]
    · exact alW_one h.1 k (by omega)
theorem grF_le {P Q : Nat → Bool} (hPQ : ∀ p, P p = true → Q p = true) : ∀ p, grF P p ≤ grF Q p
  | 0 => Int.le_refl _
  | p + 1 => by
    have ih := grF_le hPQ p
    have rq := grF_rng Q p
    unfold grF
    cases h1 : P (p + 1) with
    | true => rw [hPQ _ h1]; exact Int.le_refl _
    | false =>
      cases h2 : Q (p + 1) with
      | true => have := grF_rng P p; simp; omega
      | false => simpa using ih
theorem gr_one {b : BT} {w : WT} {k : Nat} (hk : k < wN w) (h : ¬ shr b w = -1) : 1 ≤ gr b w k 1 ∧ gr b w k 1 ≤ 50 := by
  have h1 : shr b w ≤ gr b w k 1 := by
    unfold shr gr
    refine grF_le (fun p hp => ?_) 50
    have := alW_one hp k hk
    simpa using this
  have h2 := grF_rng (fun p => alW (bp b p) w 0 (wN w)) 50
  have h3 := grF_rng (fun p => alW (bp b p) w k 1) 50
  unfold shr gr at *
  omega
/-- beats sent up to time 1000 by watchers on their own, the first n -/
def snF (b : BT) (w : WT) : Nat → Int
  | 0 => 0
  | k + 1 => snF b w k + (1000 / gr b w k 1 + 1)
def sav (b : BT) (w : WT) : Int32 := if shr b w = -1 ∨ wN w = 0 then -2147483648 else iz (snF b w (wN w) - (1000 / shr b w + 1))
theorem m_savedNow {τ : SS} {b : BT} {w : WT} {K : SS → Int32 → Prop} (hM : MB τ b) (hB : BB b) (hW : MW τ w) (hWB : WB w) (h : ∀ τ', pe τ τ' → K τ' (sav b w)) : wp_X6_savedNow τ K := by
  have r := hWB.1
  have rs := grF_rng (fun p => alW (bp b p) w 0 (wN w)) 50
  unfold wp_X6_savedNow
  refine m_sharedNow hM hB hW hWB (fun τ1 hp => ?_)
  have rs : shr b w = -1 ∨ (1 ≤ shr b w ∧ shr b w ≤ 50) := by unfold shr gr; omega
  have hW1 := MW_pe hp hW
  rw [hW1.1]
  simp only [ize]
  refine ceq (by omega) (fun e => ?_) (fun e => cne (by omega) (fun e1 => ⟨by rw [iz_eq (by omega)]; omega, ?_⟩) (fun e1 => ?_))
  · have := h τ1 hp; rw [show sav b w = -2147483648 from if_pos (Or.inl e)] at this; exact this
  · rw [iz_div (by omega), iz_add, iz_neg]
    refine fx3_i (fun σ x2 x3 => pe τ1 σ ∧ ∃ k : Nat, k ≤ wN w ∧ x3 = iz k ∧ x2 = iz (snF b w k - (1000 / shr b w + 1))) (fun _ _ x3 => 50 - x3.toNatClampNeg) ?_ _ _ _ ⟨pe_r τ1, 0, Nat.zero_le _, rfl, by simp [snF]⟩
    rintro L σ x2 x3 ⟨hp2, k, hk, rfl, rfl⟩ hL
    have hW2 := MW_pe hp2 hW1
    unfold lb_X6_savedNow_31
    rw [hW2.1]
    simp only [ize]
    refine cle (by omega) (fun e2 => ?_) (fun e2 => ?_)
    · have e3 : k = wN w := by omega
      subst e3
      have := h σ (pe_t hp hp2); rw [show sav b w = iz (snF b w (wN w) - (1000 / shr b w + 1)) from if_neg (by omega)] at this; exact this
    · have hgr := gr_one (b := b) (show k < wN w by omega) e
      have hmu : 50 - (iz (k : Int) + iz 1).toNatClampNeg < 50 - (iz (k : Int)).toNatClampNeg := by
        rw [iz_s, iz_cl (by omega), iz_cl (by omega)]; omega
      have := m_greatest (MB_pe (pe_t hp hp2) hM) hB hW2 hWB (f := k) (n := 1) (by omega) (K := fun (σ46 : SS) (r46 : Int32) => ¬ r46 = iz 0 ∧ L σ46 (iz (snF b w k - (1000 / shr b w + 1)) + (iz 1000 / r46 + iz 1)) (iz k + iz 1)) (fun τ2 hp3 => ⟨by rw [iz_eq (by omega)]; omega, ?_⟩)
      · rw [show (k : Int) + ((1 : Nat) : Int) - 1 = (k : Int) by omega] at this
        exact this
      · rw [iz_div (by omega), iz_add, iz_add]
        refine hL _ _ _ ⟨pe_t hp2 hp3, k + 1, by omega, iz_s k, ?_⟩ hmu
        congr 1; rw [show snF b w (k + 1) = snF b w k + (1000 / gr b w k 1 + 1) from rfl]; omega
  · have := h τ1 hp; rw [show sav b w = -2147483648 from if_pos (Or.inr (by omega))] at this; exact this
