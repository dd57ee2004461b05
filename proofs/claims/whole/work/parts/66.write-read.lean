/-! ===== sheets: write, read ===== -/
/-- by how much news i is off -/
def off (b : BT) (i : Nat) : UInt64 := FP.ddiv (FP.i2d (iz (nt b i * (bl b (i - 1) : Int) - ab b (i - 1)))) (FP.i2d (iz (bl b (i - 1))))
theorem off_n {b : BT} (hB : BB b) (i : Nat) : vf_n64 (off b i) := by
  have := bl_rng hB (i - 1)
  exact n64_q _ _ (by rw [iz_toInt (by omega)]; omega)
theorem c_offOf {σ : SS} {a : Nat} {b : BT} {K : SS → UInt64 → Prop} (hB : BB b) (hA : CA σ a b) {i : Nat} (h1 : 1 ≤ i) (hi : i < nc b) (h : K σ (off b i)) : wp_X0_offOf σ a (iz i) K := by
  have r5 := nc_40 hB
  have rb := bl_rng hB (i - 1)
  have e1 : iz (i : Int) - iz 1 = iz ((i - 1 : Nat) : Int) := by rw [iz_sub]; congr 1; omega
  have g := hA.2.2 (i - 1) (by omega)
  unfold wp_X0_offOf
  simp only [ize]
  rw [e1, iz_cl (show i - 1 < 2147483648 by omega), iz_cl (show i < 2147483648 by omega), g.2.2.2.1, g.2.2.1, (hA.2.2 i hi).2.1, iz_mul, iz_sub]
  exact ⟨iz_in (by omega), iz_in (by omega), iz_in (by omega), cle (by omega) (fun _ => ⟨off_n hB i, h⟩) (fun q => by omega)⟩
def wrS (v : S1) (b : BT) (m : Nat) : S1 := (qF v, qN v, qL v, fun k => if k < m ∧ 1 ≤ ni b k then off b (ni b k).toNat else qD v k, fun k => if k < m then decide (ni b k < 1) else qB v k)
theorem SB_wr {v : S1} {b : BT} (hB : BB b) (h : SB1 v) (m : Nat) : SB1 (wrS v b m) := by
  refine ⟨h.1, h.2.1, fun hf k hk hb => ?_⟩
  have hb : (if k < m then decide (ni b k < 1) else qB v k) = false := hb
  show vf_n64 (if k < m ∧ 1 ≤ ni b k then off b (ni b k).toNat else qD v k)
  by_cases e : k < m
  · rw [if_pos e] at hb
    simp only [decide_eq_false_iff_not] at hb
    rw [if_pos ⟨e, by omega⟩]; exact off_n hB _
  · rw [if_neg e] at hb
    rw [if_neg (fun z => e z.1)]; exact h.2.2 hf k hk hb
theorem ni_lt {b : BT} {k : Nat} (hk : k < bN b) (h : 1 ≤ ni b k) : (ni b k).toNat < nc b ∧ ((ni b k).toNat : Int) = ni b k := by
  unfold ni at *
  by_cases e : nw b k = true
  · rw [if_pos e] at *
    have h2 := fb_ct_mono (nw b) (show k + 1 ≤ bN b from hk)
    rw [fb_ct_succ, e] at h2
    have h3 : fb_ct (nw b) k < nc b := by unfold nc; simp at h2; omega
    exact ⟨by omega, by omega⟩
  · rw [if_neg e] at h; omega
theorem ni_rng {b : BT} {k : Nat} : -1 ≤ ni b k ∧ ni b k ≤ k := by
  have := fb_ct_le (nw b) k
  unfold ni; split <;> omega
theorem p_write {σ τ : SS} {a : AT} (hA : AB a) (hC : CI σ a) (hM : MI τ a) (x : Int32) : prI (wp_X5_write σ x) (wp_X6_write τ x) := by
  have hx := i_rng x
  rw [← iz_of x]
  generalize x.toInt = z at hx
  have rN := hA.1.1.1
  have r5 := nc_40 hA.1
  by_cases e1 : 0 ≤ z ∧ z ≤ 3
  · obtain ⟨s, rfl⟩ := Int.eq_ofNat_of_zero_le e1.1
    have hs : s < 4 := by omega
    have cs := hC.2.1 s hs
    have ms := hM.2.1 s hs
    have hb := hA.2.2 s hs
    have hb1 := hb.1
    have hb2 := hb.2.1
    obtain ⟨b, w, st, fn⟩ := a
    simp only at cs ms hb hb1 hb2 rN r5
    have hB : BB b := hA.1
    have hWB : WB w := hA.2.1
    obtain ⟨m, hm⟩ : ∃ m, m = min (qN (st s)) (bN b) := ⟨_, rfl⟩
    have hc : ∀ K : SS → Int32 → Prop, (qF (st s) = -1 → K (sI σ 0 8 (iz 1)) (iz (-11))) → (¬ qF (st s) = -1 → ¬ qF (st s) = 1 → K (sI σ 0 8 (iz 3)) (iz (-13))) → (qF (st s) = 1 → ∀ σ', CI σ' (stA (b, w, st, fn) s (wrS (st s) b m)) → K σ' (iz (fb_ct (fun k => decide (1 ≤ ni b k)) m))) → wp_X5_write σ (iz s) K := by
      intro K h1 h2 h3
      unfold wp_X5_write
      simp only [ize]
      refine c_refusal hA hC hx (by omega) (fun q => absurd e1 q) (fun _ q => ?_) (fun _ q q2 => ?_) (fun _ e3 => ?_)
      · simp only [Int.toNat_natCast] at q
        exact ⟨fun q => absurd q (by decide), fun _ => h1 q⟩
      · simp only [Int.toNat_natCast] at q q2
        exact ⟨fun q => absurd q (by decide), fun _ => h2 q q2⟩
      · simp only [Int.toNat_natCast] at e3
        refine ⟨fun _ => ?_, fun q => absurd rfl q⟩
        refine c_followArrivals hB hWB hC.1 (fun σ1 hq1 hC1 hF1 => ⟨iz_in (by omega), ?_⟩)
        have hCI1 := CI_rd (a := (b, w, st, fn)) (rd_f hq1 hC1 hF1) hC
        have cs1 := hCI1.2.1 s hs
        rw [iz_cl (by omega)]
        refine fx4_i (fun σ2 y3 x4 x5 => y3 = 56 + 4 * s ∧ oS s σ1 σ2 ∧ ∃ k : Nat, k ≤ m ∧ x5 = iz k ∧ x4 = iz (fb_ct (fun k => decide (1 ≤ ni b k)) k) ∧ CS1 σ2 (56 + 4 * s) (wrS (st s) b k)) (fun _ _ _ x5 => 50 - x5.toNatClampNeg) ?_ _ _ _ _ ⟨rfl, oS_r s σ1, 0, Nat.zero_le _, rfl, rfl, ⟨cs1.1, cs1.2.1, cs1.2.2.1, fun z i hi => ?_⟩⟩
        · rintro L σ2 y3 x4 x5 ⟨rfl, ho, k, hk, rfl, rfl, cs2⟩ hL
          have hn2 : gI σ2 (56 + 4 * s) 2 = iz (qN (st s)) := (cs2.2.1 (show ¬ qF (st s) = -1 by omega)).2
          unfold lb_X5_write_30
          rw [(ho 0 (by omega)).1, hC1.1.1.1, hn2, if_iz (by omega), show (if (bN b : Int) < (qN (st s) : Int) then (bN b : Int) else (qN (st s) : Int)) = (m : Int) by split <;> omega]
          simp only [ize]
          refine cle (by omega) (fun e => ?_) (fun e => ?_)
          · have e4 : k = m := by omega
            subst e4
            exact h3 e3 _ (CI_oS hA ho hCI1 cs2)
          · have hkb : k < bN b := by omega
            have rn := ni_rng (b := b) (k := k)
            have hmu : 50 - (iz (k : Int) + iz 1).toNatClampNeg < 50 - (iz (k : Int)).toNatClampNeg := by
              rw [iz_s, iz_cl (by omega), iz_cl (by omega)]; omega
            rw [iz_cl (show k < 2147483648 by omega), (ho 7 (by omega)).2.1, (hF1.2.1.2.1 k hkb).2]
            have nxt : ∀ σ3, oS s σ2 σ3 → (∀ j, gI σ3 (56 + 4 * s) j = gI σ2 (56 + 4 * s) j) → (∀ j, j ≠ k → gA σ3 (56 + 4 * s + 3) j = gA σ2 (56 + 4 * s + 3) j ∧ gD σ3 (56 + 4 * s + 2) j = gD σ2 (56 + 4 * s + 2) j) → gA σ3 (56 + 4 * s + 3) k = bz (decide (ni b k < 1)) → (1 ≤ ni b k → gD σ3 (56 + 4 * s + 2) k = off b (ni b k).toNat) → CS1 σ3 (56 + 4 * s) (wrS (st s) b (k + 1)) := by
              intro σ3 o3 i3 o4 g1 g2
              refine ⟨by rw [i3]; exact cs2.1, fun z => by rw [i3, i3]; exact cs2.2.1 z, fun z => absurd (show qF (st s) = 0 from z) (by omega), fun z i hi => ?_⟩
              have c2 := cs2.2.2.2 z i hi
              have c2a : gA σ2 (56 + 4 * s + 3) i = bz (if i < k then decide (ni b i < 1) else qB (st s) i) := c2.1
              have c2b : (if i < k then decide (ni b i < 1) else qB (st s) i) = false → gD σ2 (56 + 4 * s + 2) i = (if i < k ∧ 1 ≤ ni b i then off b (ni b i).toNat else qD (st s) i) := c2.2
              show _ = bz (if i < k + 1 then decide (ni b i < 1) else qB (st s) i) ∧ ((if i < k + 1 then decide (ni b i < 1) else qB (st s) i) = false → _ = (if i < k + 1 ∧ 1 ≤ ni b i then off b (ni b i).toNat else qD (st s) i))
              by_cases e5 : i = k
              · subst e5
                rw [if_pos (by omega)]
                refine ⟨g1, fun q => ?_⟩
                simp only [decide_eq_false_iff_not] at q
                rw [if_pos ⟨by omega, by omega⟩]; exact g2 (by omega)
              · have e6 : (i < k + 1) = (i < k) := propext ⟨fun _ => by omega, fun _ => by omega⟩
                rw [(o4 i e5).1, (o4 i e5).2]; simp only [e6]; exact ⟨c2a, c2b⟩
            refine ⟨iz_in (by omega), clt (by omega) (fun e4 => ⟨iz_in (by omega), ?_⟩) (fun e4 => ?_)⟩
            · have o3 : oS s σ2 (sA σ2 (56 + 4 * s + 3) k (vp_nar .boolean (iz 1))) := oS_A (by omega)
              refine hL _ _ _ _ ⟨rfl, oS_t ho o3, k + 1, by omega, iz_s k, ?_, nxt _ o3 (fun _ => rfl) (fun j hj => ⟨by rw [gA_sA_s, upd_n _ _ hj], rfl⟩) ?_ (fun q => by omega)⟩ hmu
              · rw [fb_ct_succ, show decide (1 ≤ ni b k) = false by simp; omega]; simp
              · rw [gA_sA_s, upd_s, show decide (ni b k < 1) = true by simp; omega]; rfl
            · have hl := ni_lt hkb e4
              have hCA : CA σ2 5 b := by
                have c := hF1.2.1
                unfold CA at c ⊢
                rw [(ho 5 (by omega)).1, (ho 5 (by omega)).1, (ho 5 (by omega)).1, (ho (5 + 1) (by omega)).2.1, (ho (5 + 2) (by omega)).2.1, (ho (5 + 3) (by omega)).2.1, (ho (5 + 4) (by omega)).2.1, (ho (5 + 5) (by omega)).2.1, (ho (5 + 6) (by omega)).2.1, (ho (5 + 7) (by omega)).2.1]
                exact c
              rw [← hl.2]
              refine c_offOf hB hCA (by omega) hl.1 ?_
              unfold wp_X3_putNumber
              rw [iz_cl (show k < 2147483648 by omega)]
              refine ⟨iz_in (by omega), iz_in (by omega), ?_⟩
              have o3 : oS s σ2 (sA (sD σ2 (56 + 4 * s + 2) k (off b (ni b k).toNat)) (56 + 4 * s + 3) k (vp_nar .boolean 0)) := oS_t (oS_D (by omega)) (oS_A (by omega))
              refine hL _ _ _ _ ⟨rfl, oS_t ho o3, k + 1, by omega, iz_s k, ?_, nxt _ o3 (fun _ => rfl) (fun j hj => ⟨by rw [gA_sA_s, upd_n _ _ hj]; rfl, by rw [gD_sA, gD_sD_s, upD_n _ _ hj]⟩) ?_ (fun q => by rw [gD_sA, gD_sD_s, upD_s])⟩ hmu
              · rw [fb_ct_succ, show decide (1 ≤ ni b k) = true by simp; omega, iz_s]; rfl
              · rw [gA_sA_s, upd_s, show decide (ni b k < 1) = false by simp; omega]; rfl
        · have c := cs1.2.2.2 z i hi
          show _ = bz (if i < 0 then decide (ni b i < 1) else qB (st s) i) ∧ ((if i < 0 then decide (ni b i < 1) else qB (st s) i) = false → _ = (if i < 0 ∧ 1 ≤ ni b i then off b (ni b i).toNat else qD (st s) i))
          rw [if_neg (by omega), if_neg (by omega)]; exact c
    have hm' : ∀ K : SS → Int32 → Prop, (qF (st s) = -1 → K (sI τ 100 27 (iz 1)) (iz (-11))) → (¬ qF (st s) = -1 → ¬ qF (st s) = 1 → K (sI τ 100 27 (iz 3)) (iz (-13))) → (qF (st s) = 1 → ∀ τ', MI τ' (stA (b, w, st, fn) s (wrS (st s) b m)) → K τ' (iz (fb_ct (fun k => decide (1 ≤ ni b k)) m))) → wp_X6_write τ (iz s) K := by
      intro K h1 h2 h3
      unfold wp_X6_write
      simp only [ize]
      refine m_isSheet hx (bz_c (fun _ => ?_) (fun q => ?_))
      · rw [iz_cl (by omega), ms.1]
        refine ⟨iz_in (by omega), ceq (by omega) (fun e3 => ?_) (fun e3 => ⟨iz_in (by omega), cne (by omega) (fun e4 => m_meets (h2 e4 e3)) (fun e4 => m_meets (h1 e4))⟩)⟩
        have hst0 : MI τ (stA (b, w, st, fn) s (wrS (st s) b 0)) := by
          refine MI_oM hA (oM_r s τ) hM ⟨ms.1, ms.2.1, ms.2.2.1, fun z i hi => ?_⟩
          have c := ms.2.2.2 z i hi
          show _ = bz (if i < 0 then decide (ni b i < 1) else qB (st s) i) ∧ ((if i < 0 then decide (ni b i < 1) else qB (st s) i) = false → _ = (if i < 0 ∧ 1 ≤ ni b i then off b (ni b i).toNat else qD (st s) i))
          rw [if_neg (by omega), if_neg (by omega)]; exact c
        refine fx4_i (fun τ1 x1 x2 x3 => x1 = iz s ∧ ∃ k : Nat, k ≤ m ∧ x3 = iz k ∧ x2 = iz (fb_ct (fun k => decide (1 ≤ ni b k)) k) ∧ MI τ1 (stA (b, w, st, fn) s (wrS (st s) b k))) (fun _ _ _ x3 => 50 - x3.toNatClampNeg) ?_ _ _ _ _ ⟨rfl, 0, Nat.zero_le _, rfl, rfl, hst0⟩
        rintro L τ1 x1 x2 x3 ⟨rfl, k, hk, rfl, rfl, hM1⟩ hL
        have g : ∀ k, (stA (b, w, st, fn) s (wrS (st s) b k)).2.2.1 s = wrS (st s) b k := fun k => if_pos rfl
        have ms1 := hM1.2.1 s hs
        rw [g] at ms1
        have hMB1 : MB τ1 b := hM1.1.1
        unfold lb_X6_write_44
        rw [hMB1.1, iz_cl (show s < 2147483648 by omega), show gA τ1 111 s = iz (qN (st s)) from ms1.2.1 (show ¬ qF (st s) = -1 by omega)]
        have fin : k = m → K τ1 (iz (fb_ct (fun k => decide (1 ≤ ni b k)) k)) := fun e4 => by subst e4; exact h3 e3 _ hM1
        refine cle (by omega) (fun e => fin (by omega)) (fun e => ⟨iz_in (by omega), cle (by omega) (fun e5 => fin (by omega)) (fun e5 => ?_)⟩)
        have hkb : k < bN b := by omega
        have rn := ni_rng (b := b) (k := k)
        have hmu : 50 - (iz (k : Int) + iz 1).toNatClampNeg < 50 - (iz (k : Int)).toNatClampNeg := by
          rw [iz_s, iz_cl (by omega), iz_cl (by omega)]; omega
        simp only [ize]
        refine m_cameOf hMB1 hB hkb (by omega) (fun τ2 hp2 hN2 => ?_)
        have hM2 := MI_pe hp2 hM1
        have ms2 := hM2.2.1 s hs
        rw [g] at ms2
        have hMB2 : MB τ2 b := hM2.1.1
        rw [show cm b k 2 = ni b k by simp [cm]]
        have nxt : ∀ τ3, oM s τ2 τ3 → (gA τ3 110 s = gA τ2 110 s ∧ gA τ3 111 s = gA τ2 111 s) → (∀ j, j ≠ k → gA τ3 114 (40 * s + j) = gA τ2 114 (40 * s + j) ∧ gD τ3 113 (40 * s + j) = gD τ2 113 (40 * s + j)) → gA τ3 114 (40 * s + k) = bz (decide (ni b k < 1)) → (1 ≤ ni b k → gD τ3 113 (40 * s + k) = off b (ni b k).toNat) → MI τ3 (stA (b, w, st, fn) s (wrS (st s) b (k + 1))) := by
          intro τ3 o3 i3 o4 g1 g2
          have : MI τ3 (stA (stA (b, w, st, fn) s (wrS (st s) b k)) s (wrS (st s) b (k + 1))) := by
            refine MI_oM (AB_st hA (SB_wr hB hb k)) o3 hM2 ⟨by rw [i3.1]; exact ms2.1, fun z => by rw [i3.2]; exact ms2.2.1 z, fun z => absurd (show qF (st s) = 0 from z) (by omega), fun z i hi => ?_⟩
            have c2 := ms2.2.2.2 z i hi
            have c2a : gA τ2 114 (40 * s + i) = bz (if i < k then decide (ni b i < 1) else qB (st s) i) := c2.1
            have c2b : (if i < k then decide (ni b i < 1) else qB (st s) i) = false → gD τ2 113 (40 * s + i) = (if i < k ∧ 1 ≤ ni b i then off b (ni b i).toNat else qD (st s) i) := c2.2
            show _ = bz (if i < k + 1 then decide (ni b i < 1) else qB (st s) i) ∧ ((if i < k + 1 then decide (ni b i < 1) else qB (st s) i) = false → _ = (if i < k + 1 ∧ 1 ≤ ni b i then off b (ni b i).toNat else qD (st s) i))
            by_cases e5 : i = k
            · subst e5
              rw [if_pos (by omega)]
              refine ⟨g1, fun q => ?_⟩
              simp only [decide_eq_false_iff_not] at q
              rw [if_pos ⟨by omega, by omega⟩]; exact g2 (by omega)
            · have e6 : (i < k + 1) = (i < k) := propext ⟨fun _ => by omega, fun _ => by omega⟩
              rw [(o4 i e5).1, (o4 i e5).2]; simp only [e6]; exact ⟨c2a, c2b⟩
          have e7 : stA (stA (b, w, st, fn) s (wrS (st s) b k)) s (wrS (st s) b (k + 1)) = stA (b, w, st, fn) s (wrS (st s) b (k + 1)) := by
            unfold stA
            simp only [Prod.mk.injEq, true_and, and_true]
            funext q
            by_cases e8 : q = s
            · rw [if_pos e8, if_pos e8]
            · rw [if_neg e8, if_neg e8, if_neg e8]
          rw [← e7]; exact this
        have wr : ∀ (d : UInt64) (v : Int), (v = 0 ∨ v = 1) → oM s τ2 (sA (sD τ2 113 (40 * s + k) d) 114 (40 * s + k) (vp_nar .boolean (iz v))) := fun d v _ => oM_t (oM_D (by omega)) (oM_B (by omega))
        refine cle (by omega) (fun e4 => ?_) (fun e4 => ?_)
        · unfold bl_X6_write_80
          refine ⟨fun _ => ?_, fun z => absurd rfl z⟩
          unfold bl_X6_write_116
          refine ⟨fun _ => ?_, fun z => absurd rfl z⟩
          unfold bl_X6_write_150
          simp only [ize]
          rw [nw_cel, iz_cl (show 40 * s + k < 2147483648 by omega)]
          refine ⟨iz_in (by omega), fun z => absurd trivial z, fun _ => ?_⟩
          unfold bl_X6_write_171
          simp only [ize]
          rw [iz_cl (show 40 * s + k < 2147483648 by omega), iz_add]
          refine ⟨iz_in (by omega), fun _ => ?_, fun z => absurd trivial z⟩
          refine hL _ _ _ _ ⟨rfl, k + 1, by omega, iz_s k, ?_, nxt _ (wr _ 1 (Or.inr rfl)) ⟨by rw [gA_sA_p _ _ _ _ (by decide)]; rfl, by rw [gA_sA_p _ _ _ _ (by decide)]; rfl⟩ (fun j hj => ⟨by rw [gA_sA_s, upd_n _ _ (by omega)]; rfl, by rw [gD_sA, gD_sD_s, upD_n _ _ (by omega)]⟩) ?_ (fun q => by omega)⟩ hmu
          · rw [fb_ct_succ, show decide (1 ≤ ni b k) = false by simp; omega]; simp
          · rw [gA_sA_s, upd_s, show decide (ni b k < 1) = true by simp; omega]; rfl
        · have hl := ni_lt hkb (by omega)
          have rb := bl_rng hB ((ni b k).toNat - 1)
          have e1' : iz (ni b k) - iz 1 = iz (((ni b k).toNat - 1 : Nat) : Int) := by rw [iz_sub]; congr 1; omega
          have hni : iz (ni b k) = iz ((ni b k).toNat : Int) := by rw [hl.2]
          unfold bl_X6_write_80
          refine ⟨fun z => absurd z (by decide), fun _ => ?_⟩
          simp only [ize]
          rw [e1', hni, iz_cl (show (ni b k).toNat < 2147483648 by omega), (hN2.2 _ hl.1).2]
          refine ⟨iz_in (by omega), m_belowBy hMB2 hB (by omega) (m_aboveBy hMB2 hN2 hB (by omega) ?_)⟩
          unfold bl_X6_write_116
          refine ⟨fun z => absurd z (by decide), fun _ => ?_⟩
          simp only [ize]
          rw [← hni, e1', iz_mul, iz_sub]
          refine m_belowBy hMB2 hB (by omega) ⟨off_n hB (ni b k).toNat, ?_⟩
          unfold bl_X6_write_150
          simp only [ize]
          rw [nw_cel, iz_cl (show 40 * s + k < 2147483648 by omega)]
          refine ⟨iz_in (by omega), fun _ => ?_, fun z => absurd z (by decide)⟩
          unfold bl_X6_write_171
          simp only [ize]
          rw [iz_cl (show 40 * s + k < 2147483648 by omega)]
          refine ⟨iz_in (by omega), fun z => absurd z (by decide), fun _ => ?_⟩
          refine hL _ _ _ _ ⟨rfl, k + 1, by omega, iz_s k, ?_, nxt _ (wr _ 0 (Or.inl rfl)) ⟨by rw [gA_sA_p _ _ _ _ (by decide)]; rfl, by rw [gA_sA_p _ _ _ _ (by decide)]; rfl⟩ (fun j hj => ⟨by rw [gA_sA_s, upd_n _ _ (by omega)]; rfl, by rw [gD_sA, gD_sD_s, upD_n _ _ (by omega)]⟩) ?_ (fun q => by rw [gD_sA, gD_sD_s, upD_s]; rfl)⟩ hmu
          · rw [fb_ct_succ, show decide (1 ≤ ni b k) = true by simp; omega, iz_s]; rfl
          · rw [gA_sA_s, upd_s, show decide (ni b k < 1) = false by simp; omega]; rfl
      · simp only [decide_eq_false_iff_not] at q; omega
    by_cases q1 : qF (st s) = -1
    · exact ⟨iz (-11), fnA (b, w, st, fn) (iz 1), hA, hc _ (fun _ => ⟨CI_fn hA hC _, rfl⟩) (fun q => absurd q1 q) (fun q => absurd q (by omega)), hm' _ (fun _ => ⟨MI_fn hM _, rfl⟩) (fun q => absurd q1 q) (fun q => absurd q (by omega))⟩
    · by_cases q2 : qF (st s) = 1
      · exact ⟨_, _, AB_st hA (SB_wr hB hb m), hc _ (fun q => absurd q q1) (fun _ q => absurd q2 q) (fun _ σ' h => ⟨h, rfl⟩), hm' _ (fun q => absurd q q1) (fun _ q => absurd q2 q) (fun _ σ' h => ⟨h, rfl⟩)⟩
      · exact ⟨iz (-13), fnA (b, w, st, fn) (iz 3), hA, hc _ (fun q => absurd q q1) (fun _ _ => ⟨CI_fn hA hC _, rfl⟩) (fun q => absurd q q2), hm' _ (fun q => absurd q q1) (fun _ _ => ⟨MI_fn hM _, rfl⟩) (fun q => absurd q q2)⟩
  · refine ⟨iz (-2), a, hA, ?_, ?_⟩
    · unfold wp_X5_write
      simp only [ize]
      exact c_refusal (f := 1) hA hC hx (by omega) (fun _ => ⟨fun q => absurd q (by decide), fun _ => ⟨hC, rfl⟩⟩) (fun q => absurd q e1) (fun q => absurd q e1) (fun q => absurd q e1)
    · unfold wp_X6_write
      refine m_isSheet hx (bz_c (fun e3 => ?_) (fun _ => ⟨hM, rfl⟩))
      simp only [decide_eq_true_eq] at e3; omega
