/-! ===== watchers, by the reference ===== -/
/-- watchers: how many; sorts, measures, notice, few (-1: none) -/
abbrev WT : Type := Nat × (Nat → Int) × (Nat → Int) × (Nat → Int) × (Nat → Int)
def wN (w : WT) : Nat := w.1
def wS (w : WT) : Nat → Int := w.2.1
def wM (w : WT) : Nat → Int := w.2.2.1
def wO (w : WT) : Nat → Int := w.2.2.2.1
def wF (w : WT) : Nat → Int := w.2.2.2.2
def WB (w : WT) : Prop := wN w ≤ 5 ∧ ∀ k, k < wN w → okW (wS w k) (wM w k) ∧ (-1 ≤ wO w k ∧ wO w k ≤ 500) ∧ (-1 ≤ wF w k ∧ wF w k ≤ 40)
def MW (τ : SS) (w : WT) : Prop := gI τ 100 12 = iz (wN w) ∧ ∀ k, gA τ 104 k = iz (wS w k) ∧ gA τ 105 k = iz (wM w k) ∧ gA τ 106 k = iz (wO w k) ∧ gA τ 107 k = iz (wF w k)
theorem MW_pe {τ τ' : SS} {w : WT} (h : pe τ τ') (hM : MW τ w) : MW τ' w :=
  ⟨(pe_I h 12 (by decide)).trans hM.1, fun k => by rw [pe_A h 104 (by decide), pe_A h 105 (by decide), pe_A h 106 (by decide), pe_A h 107 (by decide)]; exact hM.2 k⟩
theorem okW_rng {so ms : Int} (h : okW so ms) : (0 ≤ so ∧ so ≤ 3) ∧ 0 ≤ ms ∧ ms ≤ 200 := by rcases h with w | w | w | w <;> omega
theorem m_goesAs {τ : SS} {b : BT} {w : WT} {K : SS → Prop} (hM : MB τ b) (hB : BB b) (hW : MW τ w) (hWB : WB w) {k : Nat} (hk : k < wN w) (h : ∀ τ', pe τ τ' → MN τ' b → MD τ' b (wS w k) (wM w k) → K τ') : wp_X6_goesAs τ (iz k) K := by
  have r := hWB.1
  unfold wp_X6_goesAs
  rw [iz_cl (by omega), (hW.2 k).1, (hW.2 k).2.1]
  exact ⟨iz_in (by omega), iz_in (by omega), m_goes hM hB (hWB.2 k hk).1 h⟩
def kpt (b : BT) (w : WT) (k : Nat) : Bool := kep b (wS w k) (wM w k) (wO w k) (wF w k)
theorem m_isKept {τ : SS} {b : BT} {w : WT} {K : SS → Int32 → Prop} (hM : MB τ b) (hB : BB b) (hW : MW τ w) (hWB : WB w) {k : Nat} (hk : k < wN w) (h : ∀ τ', pe τ τ' → K τ' (bz (kpt b w k))) : wp_X6_isKept τ (iz k) K := by
  have r := hWB.1
  have r2 := (hWB.2 k hk).2
  have r3 := lg_rng hB (hWB.2 k hk).1 _ (Nat.le_refl _)
  have r4 := mc_le b (wS w k) (wM w k) (nc b)
  have r5 := nc_40 hB
  unfold wp_X6_isKept
  refine m_goesAs hM hB hW hWB hk (fun τ1 hp _ hD => ?_)
  have hW1 := MW_pe hp hW
  have k28 : ∀ v : Bool, v = kpt b w k → (v = (decide (wF w k = -1) || decide ((mc b (wS w k) (wM w k) (nc b) : Int) ≤ wF w k))) → bl_X6_isKept_28 K τ1 (iz k) := by
    intro v e1 e2
    unfold bl_X6_isKept_28
    rw [iz_cl (by omega), (hW1.2 k).2.2.2, hD.1.1]
    simp only [ize]
    refine ⟨iz_in (by omega), ceq (by omega) (fun e => ?_) (fun e => ⟨iz_in (by omega), clt (by omega) (fun e3 => ?_) (fun e3 => ?_)⟩)⟩
    · have := h τ1 hp; rw [← e1, e2, show (decide (wF w k = -1) || decide ((mc b (wS w k) (wM w k) (nc b) : Int) ≤ wF w k)) = true by simp [e]] at this; exact this
    · have := h τ1 hp; rw [← e1, e2, show (decide (wF w k = -1) || decide ((mc b (wS w k) (wM w k) (nc b) : Int) ≤ wF w k)) = false by simp [e]; omega] at this; exact this
    · have := h τ1 hp; rw [← e1, e2, show (decide (wF w k = -1) || decide ((mc b (wS w k) (wM w k) (nc b) : Int) ≤ wF w k)) = true by simp [e]; omega] at this; exact this
  rw [iz_cl (by omega), (hW1.2 k).2.2.1, hD.1.2.2.2]
  simp only [ize]
  refine ⟨iz_in (by omega), ceq (by omega) (fun e => ?_) (fun e => ⟨iz_in (by omega), clt (by omega) (fun e3 => ?_) (fun e3 => ?_)⟩)⟩
  · exact k28 _ rfl (by simp [kpt, kep, e])
  · have := h τ1 hp; rw [show kpt b w k = false by simp [kpt, kep, e]; omega] at this; exact this
  · exact k28 _ rfl (by simp [kpt, kep]; omega)
def fg (b : BT) (so ms : Int) : Int := if nc b = 0 then -1 else bg b so ms (nc b - 1)
theorem fg_rng {b : BT} (hB : BB b) {so ms : Int} (hw : okW so ms) : -1 ≤ fg b so ms ∧ fg b so ms ≤ 40000 := by
  unfold fg
  split
  · omega
  · exact bg_rng hB hw (by omega)
theorem m_forGood {τ : SS} {b : BT} {w : WT} {K : SS → Int32 → Prop} (hM : MB τ b) (hB : BB b) (hW : MW τ w) (hWB : WB w) {k : Nat} (hk : k < wN w) (h : ∀ τ', pe τ τ' → K τ' (iz (fg b (wS w k) (wM w k)))) : wp_X6_forGood τ (iz k) K := by
  have r5 := nc_40 hB
  unfold wp_X6_forGood
  refine m_goesAs hM hB hW hWB hk (fun τ1 hp hN hD => ?_)
  simp only [ize, hN.1, iz_sub]
  refine cne (by omega) (fun e => ?_) (fun e => ?_)
  · have e1 : (nc b : Int) - 1 = ((nc b - 1 : Nat) : Int) := by omega
    rw [e1, iz_cl (by omega), (hD.2 _ (by omega)).1]
    refine ⟨iz_in (by omega), ?_⟩
    have := h τ1 hp
    rw [show fg b (wS w k) (wM w k) = bg b (wS w k) (wM w k) (nc b - 1) from if_neg (by omega)] at this; exact this
  · have := h τ1 hp
    rw [show fg b (wS w k) (wM w k) = -1 from if_pos (by omega)] at this; exact this
/-- info(), by what is asked -/
def inf (b : BT) (w : WT) (k : Nat) (what : Int) : Int :=
  if what = 0 then wS w k else if what = 1 then wM w k else if what = 2 then wO w k else if what = 3 then wF w k else if what = 4 then (mc b (wS w k) (wM w k) (nc b) : Int) else if what = 5 then al b (wS w k) (wM w k) (nc b) else if what = 6 then mo b (wS w k) (wM w k) (nc b) else if what = 7 then lg b (wS w k) (wM w k) (nc b) else if what = 8 then (if kpt b w k then 1 else 0) else fg b (wS w k) (wM w k)
theorem m_infoOf {τ : SS} {b : BT} {w : WT} {K : SS → Int32 → Prop} (hM : MB τ b) (hB : BB b) (hW : MW τ w) (hWB : WB w) {k : Nat} (hk : k < wN w) {q : Int} (hq : -2147483648 ≤ q ∧ q < 2147483648) (h : ∀ τ', pe τ τ' → K τ' (iz (inf b w k q))) : wp_X6_infoOf τ (iz k) (iz q) K := by
  have r := hWB.1
  unfold wp_X6_infoOf
  refine m_goesAs hM hB hW hWB hk (fun τ1 hp hN hD => ?_)
  have hW1 := MW_pe hp hW
  have hM1 := MB_pe hp hM
  have h1 := h τ1 hp
  rw [iz_cl (by omega), (hW1.2 k).1, (hW1.2 k).2.1, (hW1.2 k).2.2.1, (hW1.2 k).2.2.2, hD.1.1, hD.1.2.1, hD.1.2.2.1, hD.1.2.2.2]
  simp only [ize]
  refine ⟨?_, ?_, ?_, ?_, ?_, ?_, ?_, ?_, ?_, ?_⟩ <;> simp only [iz_eq (show (-2147483648 ≤ q ∧ q < 2147483648) ∧ (-2147483648 : Int) ≤ 0 ∧ (0 : Int) < 2147483648 by omega), iz_eq (show (-2147483648 ≤ q ∧ q < 2147483648) ∧ (-2147483648 : Int) ≤ 1 ∧ (1 : Int) < 2147483648 by omega), iz_eq (show (-2147483648 ≤ q ∧ q < 2147483648) ∧ (-2147483648 : Int) ≤ 2 ∧ (2 : Int) < 2147483648 by omega), iz_eq (show (-2147483648 ≤ q ∧ q < 2147483648) ∧ (-2147483648 : Int) ≤ 3 ∧ (3 : Int) < 2147483648 by omega), iz_eq (show (-2147483648 ≤ q ∧ q < 2147483648) ∧ (-2147483648 : Int) ≤ 4 ∧ (4 : Int) < 2147483648 by omega), iz_eq (show (-2147483648 ≤ q ∧ q < 2147483648) ∧ (-2147483648 : Int) ≤ 5 ∧ (5 : Int) < 2147483648 by omega), iz_eq (show (-2147483648 ≤ q ∧ q < 2147483648) ∧ (-2147483648 : Int) ≤ 6 ∧ (6 : Int) < 2147483648 by omega), iz_eq (show (-2147483648 ≤ q ∧ q < 2147483648) ∧ (-2147483648 : Int) ≤ 7 ∧ (7 : Int) < 2147483648 by omega), iz_eq (show (-2147483648 ≤ q ∧ q < 2147483648) ∧ (-2147483648 : Int) ≤ 8 ∧ (8 : Int) < 2147483648 by omega)]
  · intro e; subst e; exact ⟨iz_in (by omega), h1⟩
  · intro e; subst e; exact ⟨iz_in (by omega), h1⟩
  · intro e; subst e; exact ⟨iz_in (by omega), h1⟩
  · intro e; subst e; exact ⟨iz_in (by omega), h1⟩
  · intro e; subst e; exact h1
  · intro e; subst e; exact h1
  · intro e; subst e; exact h1
  · intro e; subst e; exact h1
  · intro e; subst e
    refine m_isKept hM1 hB hW1 hWB hk (fun τ2 hp2 => ?_)
    have h2 := h τ2 (pe_t hp hp2)
    refine bz_d (fun e2 => ?_) (fun e2 => ?_)
    · rw [show inf b w k 8 = 1 by simp [inf, e2]] at h2; exact h2
    · rw [show inf b w k 8 = 0 by simp [inf, e2]] at h2; exact h2
  · intro e0 e1 e2 e3 e4 e5 e6 e7 e8
    refine m_forGood hM1 hB hW1 hWB hk (fun τ2 hp2 => ?_)
    have h2 := h τ2 (pe_t hp hp2)
    rw [show inf b w k q = fg b (wS w k) (wM w k) by simp [inf, e0, e1, e2, e3, e4, e5, e6, e7, e8]] at h2; exact h2
theorem mc_ct (b : BT) (so ms : Int) : ∀ i, mc b so ms i = fb_ct (mi b so ms) i
  | 0 => rfl
  | i + 1 => by rw [mc_succ, fb_ct_succ, mc_ct b so ms i]
/-- by which news mistake k began -/
def mp (b : BT) (so ms : Int) (k : Nat) : Nat := ((List.range (nc b)).find? (fun i => mi b so ms i && decide (mc b so ms i = k))).getD 0
theorem mp_of {b : BT} {so ms : Int} {i : Nat} (hi : i < nc b) (h : mi b so ms i = true) : mp b so ms (mc b so ms i) = i := by
  unfold mp
  cases hf : (List.range (nc b)).find? (fun j => mi b so ms j && decide (mc b so ms j = mc b so ms i)) with
  | none =>
    have := List.find?_eq_none.mp hf i (List.mem_range.mpr hi)
    simp [h] at this
  | some j =>
    have h1 := List.find?_some hf
    simp only [Bool.and_eq_true, decide_eq_true_eq] at h1
    exact fb_ct_kth_one h1.1 h (by rw [← mc_ct, ← mc_ct]; exact h1.2)
theorem mp_lt {b : BT} {so ms : Int} {k : Nat} (h : k < mc b so ms (nc b)) : mp b so ms k < nc b ∧ mi b so ms (mp b so ms k) = true ∧ mc b so ms (mp b so ms k) = k := by
  rw [mc_ct] at h
  obtain ⟨i, h1, h2, h3⟩ := fb_ct_kth h
  rw [← mc_ct] at h3
  have := mp_of h1 h2
  rw [h3] at this
  rw [this]
  exact ⟨h1, h2, h3⟩
def led (b : BT) (so ms : Int) (q : Int) (i : Nat) : Int := if q = 0 then bg b so ms i else if q = 1 then nt b (i + 1) else (i : Int)
theorem m_ledgerOf {τ : SS} {b : BT} {w : WT} {K : SS → Int32 → Prop} (hM : MB τ b) (hB : BB b) (hW : MW τ w) (hWB : WB w) {j : Nat} (hj : j < wN w) {z q : Int} (hz : 0 ≤ z ∧ z < 2147483648) (hq : -2147483648 ≤ q ∧ q < 2147483648) (h : ∀ τ', pe τ τ' → K τ' (iz (if z < (mc b (wS w j) (wM w j) (nc b) : Int) then led b (wS w j) (wM w j) q (mp b (wS w j) (wM w j) z.toNat) else -2))) : wp_X6_ledgerOf τ (iz j) (iz z) (iz q) K := by
  have r5 := nc_40 hB
  obtain ⟨k, rfl⟩ := Int.eq_ofNat_of_zero_le hz.1
  simp only [Int.toNat_natCast, Int.ofNat_lt] at h
  unfold wp_X6_ledgerOf
  refine m_goesAs hM hB hW hWB hj (fun τ1 hp hN hD => ?_)
  have hw := (hWB.2 j hj).1
  generalize wS w j = so at h hD hw
  generalize wM w j = ms at h hD hw
  have h1 := h τ1 hp
  simp only [ize]
  refine fx5_i (fun σ x3 x4 x5 x6 => σ = τ1 ∧ x3 = iz q ∧ ∃ i : Nat, i ≤ nc b ∧ x6 = iz i ∧ x4 = iz ((k : Int) - (mc b so ms i : Int)) ∧ x5 = iz (if k < mc b so ms i then led b so ms q (mp b so ms k) else -2)) (fun _ _ _ _ x6 => 50 - x6.toNatClampNeg) ?_ _ _ _ _ _ ⟨rfl, rfl, 0, Nat.zero_le _, rfl, by simp [mc], by simp [mc]⟩
  rintro L σ x3 x4 x5 x6 ⟨rfl, rfl, i, hi, rfl, rfl, rfl⟩ hL
  have hci := mc_le b so ms i
  unfold lb_X6_ledgerOf_15
  simp only [ize, hN.1]
  refine cle (by omega) (fun e => ?_) (fun e => ?_)
  · have e3 : i = nc b := by omega
    subst e3
    exact h1
  · have hi2 : i < nc b := by omega
    have rn := nt_rng hB hi2
    have rb := bg_rng hB hw hi2
    have hmu : 50 - (iz (i : Int) + iz 1).toNatClampNeg < 50 - (iz (i : Int)).toNatClampNeg := by
      rw [iz_s, iz_cl (by omega), iz_cl (by omega)]; omega
    have k89 : ∀ y, y = iz (if k < mc b so ms (i + 1) then led b so ms q (mp b so ms k) else -2) → bl_X6_ledgerOf_89 K L σ (iz q) (iz ((k : Int) - (mc b so ms i : Int))) (iz i) y := by
      intro y hy
      unfold bl_X6_ledgerOf_89
      rw [iz_cl (by omega), (hD.2 i hi2).2]
      simp only [ize, iz_sub]
      refine ⟨iz_in (by omega), bz_d (fun e2 => ?_) (fun e2 => ?_)⟩
      · refine hL _ _ _ _ _ ⟨rfl, rfl, i + 1, by omega, iz_s i, ?_, hy⟩ hmu
        rw [mc_succ, e2]; congr 1; simp; omega
      · refine hL _ _ _ _ _ ⟨rfl, rfl, i + 1, by omega, iz_s i, ?_, hy⟩ hmu
        rw [mc_succ, e2]; congr 1; simp
    have k44f : (mi b so ms i = false ∨ ¬ k = mc b so ms i) → bl_X6_ledgerOf_44 K L σ (iz q) (iz ((k : Int) - (mc b so ms i : Int))) (iz (if k < mc b so ms i then led b so ms q (mp b so ms k) else -2)) (iz i) (iz 0) := by
      intro e2
      unfold bl_X6_ledgerOf_44
      simp only [ize]
      refine ⟨fun _ => k89 _ ?_, fun e4 => absurd trivial e4⟩
      congr 1
      rw [mc_succ]
      rcases e2 with e2 | e2
      · rw [e2]; rfl
      · cases mi b so ms i with
        | false => rfl
        | true => simp only [if_true]; by_cases e5 : k < mc b so ms i
                  · rw [if_pos e5, if_pos (by omega)]
                  · rw [if_neg e5, if_neg (by omega)]
    rw [iz_cl (by omega), (hD.2 i hi2).2]
    refine ⟨iz_in (by omega), bz_d (fun e2 => cne (by omega) (fun e3 => k44f (Or.inr (by omega))) (fun e3 => ?_)) (fun e2 => k44f (Or.inl e2))⟩
    have hm := mi_iff.mp e2
    have hk : k = mc b so ms i := by omega
    have hmp := mp_of hi2 e2
    rw [← hk] at hmp
    have hv : k < mc b so ms (i + 1) := by rw [mc_succ, e2]; simp; omega
    unfold bl_X6_ledgerOf_44
    simp only [ize]
    rw [iz_s, iz_cl (by omega), iz_cl (by omega), (hN.2 _ hm.2.1).2, (hD.2 i hi2).1]
    refine ⟨fun e4 => absurd e4 (by decide), fun _ => cne (by omega) (fun e4 => cne (by omega) (fun e5 => k89 _ ?_) (fun e5 => ⟨iz_in (by omega), k89 _ ?_⟩)) (fun e4 => ⟨iz_in (by omega), k89 _ ?_⟩)⟩
    · rw [if_pos hv, hmp, led, if_neg e4, if_neg e5]
    · rw [if_pos hv, hmp, led, if_neg e4, if_pos e5]
    · rw [if_pos hv, hmp, led, if_pos e4]
theorem m_limitOf {τ : SS} {b : BT} {w : WT} {K : SS → Int32 → Prop} (hM : MB τ b) (hB : BB b) (hW : MW τ w) (hWB : WB w) {k i : Nat} (hk : k < wN w) (hi : i < nc b) (h : ∀ τ', pe τ τ' → K τ' (iz (bg b (wS w k) (wM w k) i))) : wp_X6_limitOf τ (iz k) (iz i) K := by
  have r5 := nc_40 hB
  unfold wp_X6_limitOf
  refine m_goesAs hM hB hW hWB hk (fun τ1 hp hN hD => ?_)
  rw [iz_cl (by omega), (hD.2 i hi).1]
  exact ⟨iz_in (by omega), h τ1 hp⟩
/-- whether a watcher doubts at t, by the first n news -/
def dbU (b : BT) (so ms t : Int) : Nat → Bool
  | 0 => false
  | i + 1 => dbU b so ms t i || (decide (¬ bg b so ms i = -1) && (decide (bg b so ms i ≤ t) && (decide (i + 1 = nc b) || (mi b so ms i && decide (t < nt b (i + 1))))))
def db (b : BT) (so ms t : Int) : Bool := dbU b so ms t (nc b)
theorem m_isDoubting {τ : SS} {b : BT} {w : WT} {K : SS → Int32 → Prop} (hM : MB τ b) (hB : BB b) (hW : MW τ w) (hWB : WB w) {k : Nat} (hk : k < wN w) {t : Int} (ht : 0 ≤ t ∧ t ≤ 6000) (h : ∀ τ', pe τ τ' → K τ' (bz (db b (wS w k) (wM w k) t))) : wp_X6_isDoubting τ (iz k) (iz t) K := by
  have r5 := nc_40 hB
  unfold wp_X6_isDoubting
  refine m_goesAs hM hB hW hWB hk (fun τ1 hp hN hD => ?_)
  have hw := (hWB.2 k hk).1
  generalize wS w k = so at h hD hw
  generalize wM w k = ms at h hD hw
  have h1 := h τ1 hp
  simp only [ize]
  refine fx4_i (fun σ x2 x3 x4 => σ = τ1 ∧ x2 = iz t ∧ ∃ i : Nat, i ≤ nc b ∧ x4 = iz i ∧ x3 = bz (dbU b so ms t i)) (fun _ _ _ x4 => 50 - x4.toNatClampNeg) ?_ _ _ _ _ ⟨rfl, rfl, 0, Nat.zero_le _, rfl, rfl⟩
  rintro L σ x2 x3 x4 ⟨rfl, rfl, i, hi, rfl, rfl⟩ hL
  unfold lb_X6_isDoubting_10
  simp only [ize, hN.1, iz_s]
  refine cle (by omega) (fun e => ?_) (fun e => ?_)
  · have e3 : i = nc b := by omega
    subst e3
    exact ⟨bz_or _, h1⟩
  · have hi2 : i < nc b := by omega
    have rn := nt_rng hB hi2
    have rb := bg_rng hB hw hi2
    have hmu : 50 - (iz (i : Int) + iz 1).toNatClampNeg < 50 - (iz (i : Int)).toNatClampNeg := by
      rw [iz_s, iz_cl (by omega), iz_cl (by omega)]; omega
    have go : ∀ y, y = bz (dbU b so ms t (i + 1)) → L σ (iz t) y (iz i + iz 1) := fun y hy => hL _ _ _ _ ⟨rfl, rfl, i + 1, by omega, iz_s i, hy⟩ hmu
    have k35 : ∀ v : Bool, v = decide (i + 1 = nc b) → bl_X6_isDoubting_35 K L σ (iz t) (bz (dbU b so ms t i)) (iz i) (bz v) := by
      intro v hv
      unfold bl_X6_isDoubting_35
      rw [iz_cl (by omega), (hD.2 i hi2).1, (hD.2 i hi2).2]
      simp only [ize]
      refine bz_c (fun e2 => go _ ?_) (fun e2 => ⟨iz_in (by omega), ceq (by omega) (fun e3 => go _ ?_) (fun e3 => ⟨iz_in (by omega), clt (by omega) (fun e4 => go _ ?_) (fun e4 => bz_c (fun e5 => go _ ?_) (fun e5 => ⟨iz_in (by omega), bz_d (fun e6 => ?_) (fun e6 => go _ ?_)⟩))⟩)⟩)
      · simp [dbU, e2, bz_t]
      · simp [dbU, e2, e3, bz_f]
      · simp only [dbU, e2, Bool.false_or]; rw [show decide (bg b so ms i ≤ t) = false by simp; omega]; simp [bz_f]
      · rw [e5] at hv; simp only [dbU, e2, Bool.false_or, ← hv]; rw [show decide (bg b so ms i ≤ t) = true by simp; omega]; simp [e3, bz_t]
      · have hm := mi_iff.mp e6
        have rn2 := nt_rng hB hm.2.1
        rw [iz_s, iz_cl (by omega), (hN.2 _ hm.2.1).2, ← iz_s]
        refine ⟨by rw [iz_s]; exact iz_in (by omega), cle (by omega) (fun e7 => go _ ?_) (fun e7 => go _ ?_)⟩
        · rw [e5] at hv; simp only [dbU, e2, Bool.false_or, ← hv, e6]; rw [show decide (t < nt b (i + 1)) = false by simp; omega]; simp [bz_f]
        · rw [e5] at hv; simp only [dbU, e2, Bool.false_or, ← hv, e6]; rw [show decide (t < nt b (i + 1)) = true by simp; omega, show decide (bg b so ms i ≤ t) = true by simp; omega]; simp [e3, bz_t]
      · rw [e5] at hv; simp only [dbU, e2, Bool.false_or, ← hv, e6]; simp [bz_f]
    refine cne (by omega) (fun e2 => ?_) (fun e2 => ?_)
    · exact k35 false (by simp; omega)
    · exact k35 true (by simp; omega)
