/-! ===== what changes beats and watchers, in both ===== -/
def uz (f : Nat → Int) (k : Nat) (v : Int) : Nat → Int := fun j => if j = k then v else f j
theorem uz_s (f : Nat → Int) (k : Nat) (v : Int) : uz f k v k = v := if_pos rfl
theorem uz_n (f : Nat → Int) {k j : Nat} (v : Int) (h : j ≠ k) : uz f k v j = f j := if_neg h
theorem upd_uz {f : Nat → Int32} {g : Nat → Int} {k : Nat} {v : Int} (h : ∀ j, f j = iz (g j)) (j : Nat) : upd f k (iz v) j = iz (uz g k v j) := by
  by_cases e : j = k
  · subst e; rw [upd_s, uz_s]
  · rw [upd_n _ _ e, uz_n _ _ e]; exact h j
theorem CS1_ag {σ σ' : SS} (h : ag 0 56 σ σ') {p : Nat} (hp : 56 ≤ p) {v : S1} (hC : CS1 σ p v) : CS1 σ' p v := by
  have hL : gL σ' = gL σ := by unfold gL; rw [h.2]
  have hD : gD σ' = gD σ := by unfold gD; rw [h.2]
  unfold CS1
  rw [ag_I h (by omega), ag_I h (by omega), ag_I h (by omega), ag_A h (by omega), hL, hD]
  exact hC
/-- what was worked out is forgotten -/
theorem CI_fg {σ : SS} {b : BT} {w : WT} {st : ST} {fn : Int32} (h1 : CB σ b) (h2 : CWt σ w) (h3 : ∀ s, s < 4 → CS1 σ (56 + 4 * s) (st s)) (h4 : gI σ 0 8 = fn) : CI (sI (sI σ 0 10 0) 0 12 0) (b, w, st, fn) := by
  have hg : ag 0 56 σ (sI (sI σ 0 10 0) 0 12 0) := ag_t (ag_sI (by omega)) (ag_sI (by omega))
  have hI : ∀ p k, k ≠ 10 → k ≠ 12 → gI (sI (sI σ 0 10 0) 0 12 0) p k = gI σ p k := fun p k e1 e2 => by rw [gI_sI_k _ _ _ _ e2, gI_sI_k _ _ _ _ e1]
  have hA : ∀ p, gA (sI (sI σ 0 10 0) 0 12 0) p = gA σ p := fun p => rfl
  refine ⟨⟨⟨?_, ?_⟩, Or.inl (by rw [gI_sI_k _ _ _ _ (by decide), gI_sI_s]; rfl), Or.inl (by rw [gI_sI_s]; rfl)⟩, fun s hs => CS1_ag hg (by omega) (h3 s hs), ?_⟩
  · unfold CB
    rw [hI _ _ (by decide) (by decide), hA, hI _ _ (by decide) (by decide), hI _ _ (by decide) (by decide), hI _ _ (by decide) (by decide)]; exact h1
  · refine ⟨by rw [hI _ _ (by decide) (by decide)]; exact h2.1, fun k hk => ?_⟩
    rw [hI _ _ (by decide) (by decide), hI _ _ (by decide) (by decide), hI _ _ (by decide) (by decide), hI _ _ (by decide) (by decide)]; exact h2.2 k hk
  · rw [hI _ _ (by decide) (by decide)]; exact h4
def addA (a : AT) (z : Int) : AT := ((uz (bD a.1) (bN a.1) z, bN a.1 + 1, bP a.1, bS a.1, bW a.1), a.2)
theorem AB_add {a : AT} (hA : AB a) {z : Int} (hz : -1 ≤ z ∧ z ≤ 99) (hn : bN a.1 < 40) : AB (addA a z) :=
  ⟨⟨⟨hn, fun k => by
    show -1 ≤ uz (bD a.1) (bN a.1) z k ∧ uz (bD a.1) (bN a.1) z k ≤ 99
    by_cases e : k = bN a.1
    · rw [e, uz_s]; exact hz
    · rw [uz_n _ _ e]; exact hA.1.1.2 k⟩, hA.1.2⟩, hA.2⟩
theorem c_isDelay {σ : SS} {K : SS → Int32 → Prop} {z : Int} (hz : -9223372036854775808 ≤ z ∧ z < 9223372036854775808) (h : K σ (bz (decide (-1 ≤ z ∧ z ≤ 99)))) : wp_X5_isDelay σ (lz z) K := by
  unfold wp_X5_isDelay
  rw [lg_cmp_eq, lze.2.2.2, lz_eq (by omega)]
  refine ⟨fun e => ?_, fun e => ?_⟩
  · rw [show decide (-1 ≤ z ∧ z ≤ 99) = true by simp; omega] at h; exact h
  · simp only [ize]
    refine c_within hz (by omega) (bz_d (fun e2 => ?_) (fun e2 => ?_))
    · simp only [decide_eq_true_eq] at e2
      rw [show decide (-1 ≤ z ∧ z ≤ 99) = true by simp; omega] at h; exact h
    · simp only [decide_eq_false_iff_not] at e2
      rw [show decide (-1 ≤ z ∧ z ≤ 99) = false by simp; omega] at h; exact h
theorem c_addBeat {σ : SS} {a : AT} {K : SS → Prop} (hC : CI σ a) {z : Int} (hn : bN a.1 < 40) (h : ∀ σ', CI σ' (addA a z) → K σ') : wp_X5_addBeat σ (iz z) K := by
  unfold wp_X5_addBeat wp_X5_forgetWhatFollowed
  rw [hC.1.1.1.1, iz_cl (by omega)]
  simp only [ize.2.1, iz_s]
  refine ⟨iz_in (by omega), h _ ?_⟩
  obtain ⟨⟨⟨hCB, hCW⟩, _⟩, hS, hF⟩ := hC
  have hg : ag 0 56 σ (sI (sA σ 1 (bN a.1) (iz z)) 0 1 (iz ((bN a.1 + 1 : Nat) : Int))) := ag_t (ag_sA (by omega)) (ag_sI (by omega))
  refine CI_fg (b := (addA a z).1) (w := a.2.1) (st := a.2.2.1) (fn := a.2.2.2) ⟨gI_sI_s _ _ _ _, fun k => ?_, ?_, ?_, ?_⟩ ⟨?_, fun k hk => ?_⟩ (fun s hs => CS1_ag hg (by omega) (hS s hs)) ?_
  · rw [gA_sI, gA_sA_s]; exact upd_uz hCB.2.1 k
  · rw [gI_sI_k _ _ _ _ (by decide)]; exact hCB.2.2.1
  · rw [gI_sI_k _ _ _ _ (by decide)]; exact hCB.2.2.2.1
  · rw [gI_sI_k _ _ _ _ (by decide)]; exact hCB.2.2.2.2
  · rw [gI_sI_k _ _ _ _ (by decide)]; exact hCW.1
  · rw [gI_sI_p _ _ _ _ (by omega), gI_sI_p _ _ _ _ (by omega), gI_sI_p _ _ _ _ (by omega), gI_sI_p _ _ _ _ (by omega)]; exact hCW.2 k hk
  · rw [gI_sI_k _ _ _ _ (by decide)]; exact hF
theorem MS1_I {τ : SS} {k : Nat} {v : Int32} {s : Nat} {q : S1} (h : MS1 τ s q) : MS1 (sI τ 100 k v) s q := h
theorem MS1_A {τ : SS} {p k : Nat} {v : Int32} {s : Nat} {q : S1} (hp : p < 110) (h : MS1 τ s q) : MS1 (sA τ p k v) s q := by
  unfold MS1
  rw [gA_sA_p _ _ _ _ (by omega), gA_sA_p _ _ _ _ (by omega), gA_sA_p _ _ _ _ (by omega)]; exact h
theorem m_adds {τ : SS} {a : AT} {K : SS → Int32 → Prop} (hM : MI τ a) (hA : AB a) {z : Int} (hz : -2147483648 ≤ z ∧ z < 2147483648) (h1 : -1 ≤ z ∧ z ≤ 99 → bN a.1 < 40 → ∀ τ', MI τ' (addA a z) → K τ' (iz ((bN a.1 + 1 : Nat) : Int))) (h2 : -1 ≤ z ∧ z ≤ 99 → bN a.1 = 40 → K τ (iz (-4))) (h3 : ¬ (-1 ≤ z ∧ z ≤ 99) → K τ (iz (-2))) : wp_X6_adds τ (iz z) K := by
  have r := hA.1.1.1
  obtain ⟨⟨hMB, hMW⟩, hS, hF⟩ := hM
  unfold wp_X6_adds
  simp only [ize]
  refine m_in hz (by omega) (bz_c (fun e1 => ?_) (fun e1 => ?_))
  · simp only [decide_eq_true_eq] at e1
    rw [hMB.1]
    refine cne (by omega) (fun e2 => ?_) (fun e2 => h2 e1 (by omega))
    rw [iz_cl (by omega), iz_s, gI_sI_s]
    refine ⟨iz_in (by omega), h1 e1 (by omega) _ ⟨⟨⟨gI_sI_s _ _ _ _, fun k => ?_, ?_, ?_, ?_⟩, ?_, fun k => ?_⟩, fun s hs => MS1_I (MS1_A (by omega) (hS s hs)), ?_⟩⟩
    · rw [gA_sI, gA_sA_s]; exact upd_uz hMB.2.1 k
    · rw [gI_sI_k _ _ _ _ (by decide)]; exact hMB.2.2.1
    · rw [gI_sI_k _ _ _ _ (by decide)]; exact hMB.2.2.2.1
    · rw [gI_sI_k _ _ _ _ (by decide)]; exact hMB.2.2.2.2
    · rw [gI_sI_k _ _ _ _ (by decide)]; exact hMW.1
    · rw [gA_sI, gA_sI, gA_sI, gA_sI, gA_sA_p _ _ _ _ (by decide), gA_sA_p _ _ _ _ (by decide), gA_sA_p _ _ _ _ (by decide), gA_sA_p _ _ _ _ (by decide)]; exact hMW.2 k
    · rw [gI_sI_k _ _ _ _ (by decide)]; exact hF
  · simp only [decide_eq_false_iff_not] at e1
    exact h3 e1
theorem p_beat {σ τ : SS} {a : AT} (hA : AB a) (hC : CI σ a) (hM : MI τ a) (x : Int32) : prI (wp_X5_beat σ x) (wp_X6_beat τ x) := by
  have r := hA.1.1.1
  have hx := i_rng x
  rw [← iz_of x]
  generalize x.toInt = z at hx
  have hc : ∀ K, (bN a.1 < 40 → -1 ≤ z ∧ z ≤ 99 → ∀ σ', CI σ' (addA a z) → K σ' (iz ((bN a.1 + 1 : Nat) : Int))) → (-1 ≤ z ∧ z ≤ 99 → bN a.1 = 40 → K σ (iz (-4))) → (¬ (-1 ≤ z ∧ z ≤ 99) → K σ (iz (-2))) → wp_X5_beat σ (iz z) K := by
    intro K h1 h2 h3
    unfold wp_X5_beat
    rw [iz_l hx]
    simp only [ize]
    refine c_isDelay (by omega) (bz_c (fun e1 => ?_) (fun e1 => ?_))
    · simp only [decide_eq_true_eq] at e1
      rw [hC.1.1.1.1]
      refine clt (by omega) (fun e2 => ?_) (fun e2 => ?_)
      · refine c_addBeat hC (by omega) (fun σ' hC' => ?_)
        rw [hC'.1.1.1.1]; exact h1 (by omega) e1 σ' hC'
      · exact h2 e1 (by omega)
    · simp only [decide_eq_false_iff_not] at e1
      exact h3 e1
  by_cases e1 : -1 ≤ z ∧ z ≤ 99
  · by_cases e2 : bN a.1 < 40
    · exact ⟨_, addA a z, AB_add hA e1 e2, hc _ (fun _ _ σ' h => ⟨h, rfl⟩) (fun _ h => absurd h (by omega)) (fun h => absurd e1 h), m_adds hM hA hx (fun _ _ τ' h => ⟨h, rfl⟩) (fun _ h => absurd h (by omega)) (fun h => absurd e1 h)⟩
    · exact ⟨iz (-4), a, hA, hc _ (fun h => absurd h e2) (fun _ _ => ⟨hC, rfl⟩) (fun h => absurd e1 h), m_adds hM hA hx (fun _ h => absurd h e2) (fun _ _ => ⟨hM, rfl⟩) (fun h => absurd e1 h)⟩
  · exact ⟨iz (-2), a, hA, hc _ (fun _ h => absurd h e1) (fun h => absurd h e1) (fun _ => ⟨hC, rfl⟩), m_adds hM hA hx (fun h => absurd h e1) (fun h => absurd h e1) (fun _ => ⟨hM, rfl⟩)⟩
def zF (z d : Int) : Nat → Int
  | 0 => z
  | k + 1 => (zF z d k + d + 100) % 100
def bsF (a : AT) (z d : Int) : Nat → AT
  | 0 => a
  | k + 1 => addA (bsF a z d k) (zF z d k)
theorem zF_rng {z d : Int} (hz : 0 ≤ z ∧ z ≤ 99) : ∀ k, 0 ≤ zF z d k ∧ zF z d k ≤ 99
  | 0 => hz
  | k + 1 => by unfold zF; omega
theorem bsF_N (a : AT) (z d : Int) : ∀ k, bN (bsF a z d k).1 = bN a.1 + k
  | 0 => rfl
  | k + 1 => by show bN (bsF a z d k).1 + 1 = _; rw [bsF_N a z d k]; rfl
theorem AB_bs {a : AT} (hA : AB a) {z d : Int} (hz : 0 ≤ z ∧ z ≤ 99) : ∀ k, bN a.1 + k ≤ 40 → AB (bsF a z d k)
  | 0, _ => hA
  | k + 1, h => AB_add (AB_bs hA hz k (by omega)) (by have := zF_rng (d := d) hz k; omega) (by rw [bsF_N]; omega)
theorem fm_tab : ∀ i : Fin 298, ((0 ≤ (iz ((i.val : Int) - 99) ^^^ (100 : Int32))) ↔ 99 ≤ i.val) ∧ (i.val < 99 → iz ((i.val : Int) - 99) / (100 : Int32) = 0) := by decide +kernel
theorem c_floorMod {σ : SS} {K : SS → Int32 → Prop} {y : Int} (hy : -99 ≤ y ∧ y ≤ 198) (h : K σ (iz ((y + 100) % 100))) : wp_J9_floorMod_7cf53 σ (iz y) 100 K := by
  have ht := fm_tab ⟨(y + 99).toNat, by omega⟩
  rw [show (((⟨(y + 99).toNat, by omega⟩ : Fin 298).val : Int) - 99) = y by show (((y + 99).toNat : Nat) : Int) - 99 = y; omega] at ht
  obtain ⟨t1, t2⟩ := ht
  unfold wp_J9_floorMod_7cf53
  refine ⟨by decide, fun e => ?_, fun e => ?_⟩
  · have e1 := t1.mp e
    simp only at e1
    rw [show (100 : Int32) = iz 100 from rfl, iz_rem (by omega)]
    rw [show y % 100 = (y + 100) % 100 by omega]; exact h
  · have e1 : ¬ 99 ≤ (y + 99).toNat := fun q => e (t1.mpr q)
    have t3 : (y + 99).toNat < 99 → iz y / (100 : Int32) = 0 := t2
    rw [t3 (by omega)]
    have e2 : iz y - 0 * (100 : Int32) = iz y := by simp
    rw [e2, show (100 : Int32) = iz 100 from rfl, show (0 : Int32) = iz 0 from rfl, iz_add]
    refine ceq (by omega) (fun e3 => by omega) (fun e3 => ?_)
    rw [show y + 100 = (y + 100) % 100 by omega]; exact h
theorem p_beats {σ τ : SS} {a : AT} (hA : AB a) (hC : CI σ a) (hM : MI τ a) (x1 x2 x3 : Int32) : prI (wp_X5_beats σ x1 x2 x3) (wp_X6_beats τ x1 x2 x3) := by
  have r := hA.1.1.1
  have hx1 := i_rng x1
  have hx2 := i_rng x2
  have hx3 := i_rng x3
  rw [← iz_of x1, ← iz_of x2, ← iz_of x3]
  generalize x1.toInt = z at hx1
  generalize x2.toInt = d at hx2
  generalize x3.toInt = n at hx3
  by_cases e : (0 ≤ z ∧ z ≤ 99) ∧ (-99 ≤ d ∧ d ≤ 99) ∧ (1 ≤ n ∧ n ≤ 40)
  · obtain ⟨n, rfl⟩ := Int.eq_ofNat_of_zero_le (show 0 ≤ n by omega)
    have hm : ∃ m : Nat, m = min n (40 - bN a.1) := ⟨_, rfl⟩
    obtain ⟨m, hm⟩ := hm
    refine ⟨iz m, bsF a z d m, AB_bs hA e.1 m (by omega), ?_, ?_⟩
    · unfold wp_X5_beats
      simp only [ize]
      refine c_win hx1 (by omega) (bz_d (fun _ => c_win hx2 (by omega) (bz_d (fun _ => c_win hx3 (by omega) (bz_c (fun _ => ?_) (fun q => ?_))) (fun q => ?_))) (fun q => ?_))
      · rw [hC.1.1.1.1, iz_sub, if_iz (by omega), show (if (40 : Int) - (bN a.1 : Int) < (n : Int) then (40 : Int) - (bN a.1 : Int) else (n : Int)) = (m : Int) by split <;> omega]
        refine fx5_i (fun σ1 y2 y4 y5 y6 => y2 = iz d ∧ y4 = iz m ∧ ∃ k : Nat, k ≤ m ∧ y6 = iz k ∧ y5 = iz (zF z d k) ∧ CI σ1 (bsF a z d k)) (fun _ _ _ _ y6 => 50 - y6.toNatClampNeg) ?_ _ _ _ _ _ ⟨rfl, rfl, 0, Nat.zero_le _, rfl, rfl, hC⟩
        rintro L σ1 y2 y4 y5 y6 ⟨rfl, rfl, k, hk, rfl, rfl, hC1⟩ hL
        have rz := zF_rng (d := d) e.1 k
        unfold lb_X5_beats_56
        refine cle (by omega) (fun e1 => ?_) (fun e1 => ?_)
        · have e3 : k = m := by omega
          subst e3; exact ⟨hC1, rfl⟩
        · refine c_addBeat hC1 (by rw [bsF_N]; omega) (fun σ2 hC2 => ?_)
          rw [iz_add]
          refine c_floorMod (by omega) ?_
          refine hL _ _ _ _ _ ⟨rfl, rfl, k + 1, by omega, iz_s k, rfl, hC2⟩ ?_
          rw [ize.2.1, iz_s, iz_cl (by omega), iz_cl (by omega)]; omega
      · simp only [decide_eq_false_iff_not] at q; omega
      · simp only [decide_eq_false_iff_not] at q; omega
      · simp only [decide_eq_false_iff_not] at q; omega
    · unfold wp_X6_beats
      simp only [ize]
      refine m_in hx1 (by omega) (bz_d (fun _ => m_in hx2 (by omega) (bz_d (fun _ => m_in hx3 (by omega) (bz_c (fun _ => ?_) (fun q => ?_))) (fun q => ?_))) (fun q => ?_))
      · refine fx5_i (fun τ1 y2 y3 y4 y5 => y2 = iz d ∧ y3 = iz n ∧ ∃ k : Nat, k ≤ m ∧ y5 = iz k ∧ y4 = iz (zF z d k) ∧ MI τ1 (bsF a z d k)) (fun _ _ _ _ y5 => 50 - y5.toNatClampNeg) ?_ _ _ _ _ _ ⟨rfl, rfl, 0, Nat.zero_le _, rfl, rfl, hM⟩
        rintro L τ1 y2 y3 y4 y5 ⟨rfl, rfl, k, hk, rfl, rfl, hM1⟩ hL
        have rz := zF_rng (d := d) e.1 k
        have hN := bsF_N a z d k
        unfold lb_X6_beats_40
        simp only [ize]
        refine cle (by omega) (fun e1 => ?_) (fun e1 => ?_)
        · have e3 : k = m := by omega
          subst e3; exact ⟨hM1, rfl⟩
        · refine m_adds hM1 (AB_bs hA e.1 k (by omega)) (by omega) (fun _ h40 τ2 hM2 => cle (by omega) (fun e4 => by omega) (fun e4 => ?_)) (fun _ h40 => cle (by omega) (fun e4 => ?_) (fun e4 => by omega)) (fun q => by omega)
          · rw [iz_add, iz_add, iz_rem (by omega)]
            refine hL _ _ _ _ _ ⟨rfl, rfl, k + 1, by omega, iz_s k, rfl, hM2⟩ ?_
            rw [iz_s, iz_cl (by omega), iz_cl (by omega)]; omega
          · have e3 : k = m := by omega
            subst e3; exact ⟨hM1, rfl⟩
      · simp only [decide_eq_false_iff_not] at q; omega
      · simp only [decide_eq_false_iff_not] at q; omega
      · simp only [decide_eq_false_iff_not] at q; omega
  · refine ⟨iz (-2), a, hA, ?_, ?_⟩
    · unfold wp_X5_beats
      simp only [ize]
      refine c_win hx1 (by omega) (bz_d (fun q1 => c_win hx2 (by omega) (bz_d (fun q2 => c_win hx3 (by omega) (bz_c (fun q3 => ?_) (fun q => ⟨hC, trivial⟩))) (fun q => ⟨hC, trivial⟩))) (fun q => ⟨hC, trivial⟩))
      simp only [decide_eq_true_eq] at q1 q2 q3
      exact absurd ⟨q1, q2, q3⟩ e
    · unfold wp_X6_beats
      simp only [ize]
      refine m_in hx1 (by omega) (bz_d (fun q1 => m_in hx2 (by omega) (bz_d (fun q2 => m_in hx3 (by omega) (bz_c (fun q3 => ?_) (fun q => ⟨hM, trivial⟩))) (fun q => ⟨hM, trivial⟩))) (fun q => ⟨hM, trivial⟩))
      simp only [decide_eq_true_eq] at q1 q2 q3
      exact absurd ⟨q1, q2, q3⟩ e
