/-! ===== the class: diaries ===== -/
def CD (σ : SS) (d : Nat) (b : BT) (so ms : Int) : Prop := (gI σ d 3 = iz (mc b so ms (nc b)) ∧ gI σ d 4 = iz (al b so ms (nc b)) ∧ gI σ d 5 = iz (mo b so ms (nc b)) ∧ gI σ d 6 = iz (lg b so ms (nc b)) ∧ gI σ d 7 = iz (fg b so ms)) ∧ (∀ i, i < nc b → gA σ (d + 1) i = iz (bg b so ms i)) ∧ ∀ j, j < mc b so ms (nc b) → gA σ (d + 2) j = iz (mp b so ms j)
theorem CD_ag {l u : Nat} {σ σ' : SS} {d : Nat} {b : BT} {so ms : Int} (h : ag l u σ σ') (hd : d + 5 ≤ l ∨ u ≤ d) (hC : CD σ d b so ms) : CD σ' d b so ms := by
  unfold CD
  rw [ag_I h (by omega), ag_I h (by omega), ag_I h (by omega), ag_I h (by omega), ag_I h (by omega), ag_A h (by omega), ag_A h (by omega)]
  exact hC
theorem RG_ag {l u : Nat} {σ σ' : SS} {g : Nat} {b : BT} {i : Nat} (h : ag l u σ σ') (hd : g + 2 ≤ l ∨ u ≤ g) (hR : RG σ g b i) : RG σ' g b i := by
  obtain ⟨R, ⟨h1, h2⟩, h3⟩ := hR
  exact ⟨R, ⟨by rw [ag_I h (by omega)]; exact h1, fun j hj => by rw [ag_A h (by omega)]; exact h2 j hj⟩, h3⟩
theorem c_beginOfDoubt {σ : SS} {d a : Nat} {b : BT} {so ms : Int} {K : SS → Int32 → Prop} (hB : BB b) (hw : okW so ms) (hA : CA σ a b) {i : Nat} (hi : i < nc b) (h3 : gI σ d 3 = iz (mc b so ms i)) (hR : so = 1 → RG σ (d + 3) b i) (h : K σ (iz (bg b so ms i))) : wp_X1_beginOfDoubt σ d a (iz i) (iz so) (iz ms) K := by
  have r5 := nc_40 hB
  have hso := okW_rng hw
  have hn := nt_rng hB hi
  have hu := up_rng hB hi
  have hmc := mc_le b so ms i
  have rl := lim_rng hB hw (m := mc b so ms i) hi (by omega)
  obtain ⟨h1, h2, h4⟩ := hA
  have hbg : ∀ L : Int, lim b so ms i (mc b so ms i) = L → ¬ L = -1 → bg b so ms i = if nt b i < L then L else nt b i := by
    intro L hL hne
    unfold bg bgF
    rw [hL, if_neg hne]
  unfold wp_X1_beginOfDoubt
  rw [h3, iz_cl (by omega), (h4 i hi).2.1, (h4 i hi).2.2.2.2]
  simp only [ize]
  refine ⟨iz_in (by omega), ?_, ?_, ?_, ?_⟩
  · rw [iz_eq (by omega)]; intro e
    have hl : lim b so ms i (mc b so ms i) = up (ab b i) (bl b i) + ms := by simp [lim, e]
    rw [iz_add, if_iz (by omega)]
    rw [hbg _ hl (by omega)] at h
    exact ⟨iz_in (by omega), h⟩
  · rw [iz_eq (by omega)]; intro e
    refine c_lengthAbove hB hi (hR e) (by rcases hw with w | w | w | w <;> omega) ?_
    have rt := tnF_rng hB hi ms (gp b i)
    by_cases hg : gp b i = 0
    · rw [if_pos hg]
      have hl : lim b so ms i (mc b so ms i) = -1 := by simp [lim, e, hg]
      refine ⟨fun z => absurd rfl z, fun _ => ?_⟩
      rw [show bg b so ms i = -1 by unfold bg bgF; rw [if_pos hl]] at h; exact h
    · rw [if_neg hg]
      have hl : lim b so ms i (mc b so ms i) = nt b i + ten b i ms + 1 := by simp [lim, e, hg]
      rw [hl] at rl
      refine cne (by unfold ten; omega) (fun e2 => ?_) (fun e2 => ?_)
      · rw [iz_add]
        have hge : nt b i ≤ nt b i + ten b i ms + 1 := by unfold ten; omega
        by_cases hneg : nt b i + ten b i ms + 1 = -1
        · unfold ten at *; omega
        · rw [hbg _ hl hneg] at h
          by_cases hlt : nt b i < nt b i + ten b i ms + 1
          · rw [if_pos hlt, Int.add_assoc] at h; exact h
          · rw [if_neg hlt] at h
            rw [show nt b i + (ten b i ms + 1) = nt b i by omega]; exact h
      · unfold ten at *; omega
  · rw [iz_eq (by omega)]; intro e
    have hl : lim b so ms i (mc b so ms i) = nt b i + ms := by simp [lim, e]
    rw [iz_add]
    rw [hbg _ hl (by omega)] at h
    by_cases hlt : nt b i < nt b i + ms
    · rw [if_pos hlt] at h; exact h
    · rw [if_neg hlt] at h; rw [show nt b i + ms = nt b i by omega]; exact h
  · rw [iz_eq (by omega), iz_eq (by omega), iz_eq (by omega)]
    intro e0 e1 e2
    have hm := mul_rng (x := ms) (y := (mc b so ms i : Int) + 1) (A := 200) (B := 41) (by omega) (by omega)
    have hl : lim b so ms i (mc b so ms i) = up (ab b i) (bl b i) + ms * ((mc b so ms i : Int) + 1) := by simp [lim, e0, e1, e2]
    rw [iz_add, iz_mul, iz_add, if_iz (by omega)]
    rw [hbg _ hl (by omega)] at h
    exact ⟨iz_in (by omega), h⟩
theorem c_keep {σ : SS} {d a : Nat} {b : BT} {so ms : Int} {K : SS → Prop} (hB : BB b) (hw : okW so ms) (hA : CA σ a b) (hda : a + 8 ≤ d ∨ d + 5 ≤ a) (h : ∀ σ', ag d (d + 5) σ σ' → CD σ' d b so ms → K σ') : wp_X1_keep σ d a (iz so) (iz ms) K := by
  have r5 := nc_40 hB
  have hso := okW_rng hw
  unfold wp_X1_keep
  simp only [ize]
  refine fx4_i (fun σ1 x2 x3 x4 => x2 = iz so ∧ x3 = iz ms ∧ ag d (d + 5) σ σ1 ∧ ∃ i : Nat, i ≤ nc b ∧ x4 = iz i ∧ (gI σ1 d 3 = iz (mc b so ms i) ∧ gI σ1 d 4 = iz (al b so ms i) ∧ gI σ1 d 5 = iz (mo b so ms i) ∧ gI σ1 d 6 = iz (lg b so ms i) ∧ gI σ1 d 7 = iz (if i < nc b then -1 else fg b so ms)) ∧ (∀ j, j < i → gA σ1 (d + 1) j = iz (bg b so ms j)) ∧ (∀ j, j < mc b so ms i → gA σ1 (d + 2) j = iz (mp b so ms j)) ∧ (so = 1 → 0 < i → RG σ1 (d + 3) b (i - 1))) (fun _ _ _ x4 => 50 - x4.toNatClampNeg) ?_ _ _ _ _ ⟨rfl, rfl, ag_t (ag_t (ag_t (ag_t (ag_sI (by omega)) (ag_sI (by omega))) (ag_sI (by omega))) (ag_sI (by omega))) (ag_sI (by omega)), 0, Nat.zero_le _, rfl, ⟨?_, ?_, ?_, ?_, ?_⟩, fun j hj => absurd hj (Nat.not_lt_zero j), fun j hj => absurd hj (Nat.not_lt_zero j), fun _ hj => absurd hj (Nat.lt_irrefl 0)⟩
  · rintro L σ1 x2 x3 x4 ⟨rfl, rfl, hp, i, hi, rfl, ⟨g3, g4, g5, g6, g7⟩, hj1, hj2, hR⟩ hL
    have hA1 := CA_ag hp (by omega) hA
    have hci := mc_le b so ms i
    unfold lb_X1_keep_28
    rw [hA1.1.1, hA1.1.2.2]
    refine cle (by omega) (fun e => ?_) (fun e => ?_)
    · have e3 : i = nc b := by omega
      subst e3
      rw [if_neg (Nat.lt_irrefl _)] at g7
      exact h σ1 hp ⟨⟨g3, g4, g5, g6, g7⟩, hj1, hj2⟩
    · have hi2 : i < nc b := by omega
      have rn := nt_rng hB hi2
      have rb := bg_rng hB hw hi2
      have rp := pn_rng hB hi2
      have rlg := lg_rng hB hw i (by omega)
      have rmo := mo_rng hB hw i
      have hmu : 50 - (iz (i : Int) + iz 1).toNatClampNeg < 50 - (iz (i : Int)).toNatClampNeg := by
        rw [iz_s, iz_cl (by omega), iz_cl (by omega)]; omega
      have k59 : ∀ σ2, ag (d + 3) (d + 5) σ1 σ2 → (so = 1 → RG σ2 (d + 3) b i) → bl_X1_keep_59 K L d a σ2 (iz so) (iz ms) (iz i) := by
        intro σ2 hp2 hR2
        have hpa := ag_t hp (ag_w hp2 (show d ≤ d + 3 by omega) (Nat.le_refl (d + 5)))
        have hA2 := CA_ag hpa (by omega) hA
        have f3 : gI σ2 d 3 = iz (mc b so ms i) := by rw [ag_I hp2 (by omega)]; exact g3
        have f4 : gI σ2 d 4 = iz (al b so ms i) := by rw [ag_I hp2 (by omega)]; exact g4
        have f5 : gI σ2 d 5 = iz (mo b so ms i) := by rw [ag_I hp2 (by omega)]; exact g5
        have f6 : gI σ2 d 6 = iz (lg b so ms i) := by rw [ag_I hp2 (by omega)]; exact g6
        have f7 : gI σ2 d 7 = iz (-1) := by rw [ag_I hp2 (by omega), g7, if_pos hi2]
        have a1 : ∀ j, j < i → gA σ2 (d + 1) j = iz (bg b so ms j) := fun j hj => by rw [ag_A hp2 (by omega)]; exact hj1 j hj
        have a2 : ∀ j, j < mc b so ms i → gA σ2 (d + 2) j = iz (mp b so ms j) := fun j hj => by rw [ag_A hp2 (by omega)]; exact hj2 j hj
        have go : ∀ σ3, ag d (d + 5) (sA σ2 (d + 1) i (iz (bg b so ms i))) σ3 → (∀ p, p ≠ d + 2 → gA σ3 p = gA (sA σ2 (d + 1) i (iz (bg b so ms i))) p) → (∀ k, gI σ3 (d + 3) k = gI σ2 (d + 3) k) → (gI σ3 d 3 = iz (mc b so ms (i + 1)) ∧ gI σ3 d 4 = iz (al b so ms (i + 1)) ∧ gI σ3 d 5 = iz (mo b so ms (i + 1)) ∧ gI σ3 d 6 = iz (lg b so ms (i + 1)) ∧ gI σ3 d 7 = iz (if i + 1 < nc b then -1 else fg b so ms)) → (∀ j, j < mc b so ms (i + 1) → gA σ3 (d + 2) j = iz (mp b so ms j)) → L σ3 (iz so) (iz ms) (iz i + iz 1) := by
          intro σ3 hp3 hA3 hI3 hg hm
          refine hL _ _ _ _ ⟨rfl, rfl, ag_t hpa (ag_t (ag_sA (p := d + 1) (by omega)) hp3), i + 1, by omega, iz_s i, hg, fun j hj => ?_, hm, fun hs _ => ?_⟩ hmu
          · rw [hA3 _ (by omega), gA_sA_s]
            by_cases q : j = i
            · subst q; rw [upd_s]
            · rw [upd_n _ _ q]; exact a1 j (by omega)
          · obtain ⟨R, ⟨h1, h2⟩, h3⟩ := hR2 hs
            exact ⟨R, ⟨by rw [hI3]; exact h1, fun j hj => by rw [hA3 _ (by omega), gA_sA_p _ _ _ _ (by omega)]; exact h2 j hj⟩, h3⟩
        have hnext : ∀ j, j < mc b so ms (i + 1) → mi b so ms i = false → gA σ2 (d + 2) j = iz (mp b so ms j) := fun j hj hf => a2 j (by rw [mc_succ, hf] at hj; simpa using hj)
        unfold bl_X1_keep_59
        refine c_beginOfDoubt hB hw hA2 hi2 f3 hR2 ?_
        rw [iz_cl (show i < 2147483648 by omega), f6, gA_sA_p _ _ _ _ (show a + 3 ≠ d + 1 by omega), (hA2.2.2 i hi2).1, hA2.1.2.1]
        simp only [ize]
        refine ⟨iz_in (by omega), ceq (by omega) (fun e2 => ?_) (fun e2 => ⟨iz_in (by omega), ?_⟩)⟩
        · have hmf : mi b so ms i = false := by
            cases hh : mi b so ms i with
            | false => rfl
            | true => exact absurd e2 (mi_iff.mp hh).1
          refine go _ (ag_r _) (fun _ _ => rfl) (fun _ => rfl) ⟨?_, ?_, ?_, ?_, ?_⟩ (fun j hj => by rw [gA_sA_p _ _ _ _ (by omega)]; exact hnext j hj hmf)
          · rw [gI_sA, f3, mc_succ, hmf]; rfl
          · rw [gI_sA, f4]; simp [al, hmf]
          · rw [gI_sA, f5]; simp [mo, hmf]
          · rw [gI_sA, f6]; simp [lg, e2]
          · rw [gI_sA, f7]
            by_cases q : i + 1 < nc b
            · rw [if_pos q]
            · rw [if_neg q, fg, if_neg (by omega), show nc b - 1 = i by omega, e2]
        · have elg : (if iz (lg b so ms i) < iz (bg b so ms i) - iz (nb b i : Int) * iz (bP b) then iz (bg b so ms i) - iz (nb b i : Int) * iz (bP b) else iz (lg b so ms i)) = iz (lg b so ms (i + 1)) := by
            rw [iz_mul, iz_sub, Int.mul_comm, if_iz (by omega)]
            congr 1
            rw [show lg b so ms (i + 1) = (if ¬ bg b so ms i = -1 ∧ lg b so ms i < bg b so ms i - bP b * (nb b i : Int) then bg b so ms i - bP b * (nb b i : Int) else lg b so ms i) from rfl]
            by_cases q : lg b so ms i < bg b so ms i - bP b * (nb b i : Int)
            · rw [if_pos q, if_pos ⟨e2, q⟩]
            · rw [if_neg q, if_neg (fun z => q z.2)]
          rw [elg]
          unfold wp_X1_noteDoubt
          rw [gI_sI_p _ _ _ _ (show a ≠ d by omega), gI_sA, hA2.1.1]
          simp only [ize, iz_s]
          refine clt (by omega) (fun e3 => ?_) (fun e3 => ?_)
          · have rn2 := nt_rng hB (show i + 1 < nc b by omega)
            rw [iz_cl (show i + 1 < 2147483648 by omega), gA_sI, gA_sA_p _ _ _ _ (show a + 4 ≠ d + 1 by omega), (hA2.2.2 (i + 1) (by omega)).2.1, iz_sub]
            refine ⟨iz_in (by omega), cle (by omega) (fun e4 => ?_) (fun e4 => ?_)⟩
            · have hmf : mi b so ms i = false := by
                cases hh : mi b so ms i with
                | false => rfl
                | true => have := (mi_iff.mp hh).2.2; omega
              rw [← iz_s]
              refine go _ (ag_sI (by omega)) (fun _ _ => rfl) (fun k => by rw [gI_sI_p _ _ _ _ (by omega)]; rfl) ⟨?_, ?_, ?_, ?_, ?_⟩ (fun j hj => by rw [gA_sI, gA_sA_p _ _ _ _ (by omega)]; exact hnext j hj hmf)
              · rw [gI_sI_k _ _ _ _ (by decide), gI_sA, f3, mc_succ, hmf]; rfl
              · rw [gI_sI_k _ _ _ _ (by decide), gI_sA, f4]; simp [al, hmf]
              · rw [gI_sI_k _ _ _ _ (by decide), gI_sA, f5]; simp [mo, hmf]
              · rw [gI_sI_s]
              · rw [gI_sI_k _ _ _ _ (by decide), gI_sA, f7, if_pos (by omega)]
            · have hmt : mi b so ms i = true := mi_iff.mpr ⟨e2, by omega, by omega⟩
              have rw2 := wide_rng hB hw hmt
              have hmp := mp_of hi2 hmt
              rw [gI_sI_k _ _ _ _ (by decide), gI_sA, f3, iz_cl (show mc b so ms i < 2147483648 by omega)]
              refine ⟨iz_in (by omega), ?_⟩
              rw [← iz_s i]
              have e5 : ∀ k, k ≠ 3 → k ≠ 4 → k ≠ 6 → gI (sI (sI (sA (sI (sA σ2 (d + 1) i (iz (bg b so ms i))) d 6 (iz (lg b so ms (i + 1)))) (d + 2) (mc b so ms i) (iz i)) d 3 (iz (mc b so ms i) + iz 1)) d 4 (iz (al b so ms i) + iz (nt b (i + 1) - bg b so ms i))) d k = gI σ2 d k := by
                intro k h1 h2 h3
                rw [gI_sI_k _ _ _ _ h2, gI_sI_k _ _ _ _ h1, gI_sA, gI_sI_k _ _ _ _ h3, gI_sA]
              rw [gI_sI_k _ _ _ _ (show (4 : Nat) ≠ 3 by decide), gI_sA, gI_sI_k _ _ _ _ (show (4 : Nat) ≠ 6 by decide), gI_sA, f4, e5 5 (by decide) (by decide) (by decide), f5, if_iz (by omega)]
              refine go _ (ag_t (ag_t (ag_t (ag_t (ag_sI (by omega)) (ag_sA (p := d + 2) (by omega))) (ag_sI (by omega))) (ag_sI (by omega))) (ag_sI (by omega))) (fun p hp => ?_) (fun k => ?_) ⟨?_, ?_, ?_, ?_, ?_⟩ (fun j hj => ?_)
              · rw [gA_sI, gA_sI, gA_sI, gA_sA_p _ _ _ _ hp]; rfl
              · rw [gI_sI_p _ _ _ _ (by omega), gI_sI_p _ _ _ _ (by omega), gI_sI_p _ _ _ _ (by omega), gI_sA, gI_sI_p _ _ _ _ (by omega)]; rfl
              · rw [gI_sI_k _ _ _ _ (by decide), gI_sI_k _ _ _ _ (by decide), gI_sI_s, iz_s, mc_succ, hmt]; rfl
              · rw [gI_sI_k _ _ _ _ (by decide), gI_sI_s, iz_add]; simp [al, hmt]
              · rw [gI_sI_s]
                congr 1
                simp [mo, hmt]
              · rw [gI_sI_k _ _ _ _ (by decide), gI_sI_k _ _ _ _ (by decide), gI_sI_k _ _ _ _ (by decide), gI_sA, gI_sI_s]
              · rw [gI_sI_k _ _ _ _ (by decide), e5 7 (by decide) (by decide) (by decide), f7, if_pos (by omega)]
              · rw [gA_sI, gA_sI, gA_sI, gA_sA_s]
                rw [mc_succ, hmt] at hj
                simp only [if_true] at hj
                by_cases q : j = mc b so ms i
                · subst q; rw [upd_s, hmp]
                · rw [upd_n _ _ q, gA_sI, gA_sA_p _ _ _ _ (by omega)]; exact a2 j (by omega)
          · have hmf : mi b so ms i = false := mi_last (by omega)
            rw [← iz_s]
            refine go _ (ag_t (ag_sI (by omega)) (ag_sI (by omega))) (fun _ _ => rfl) (fun k => by rw [gI_sI_p _ _ _ _ (by omega), gI_sI_p _ _ _ _ (by omega)]; rfl) ⟨?_, ?_, ?_, ?_, ?_⟩ (fun j hj => by rw [gA_sI, gA_sI, gA_sA_p _ _ _ _ (by omega)]; exact hnext j hj hmf)
            · rw [gI_sI_k _ _ _ _ (by decide), gI_sI_k _ _ _ _ (by decide), gI_sA, f3, mc_succ, hmf]; rfl
            · rw [gI_sI_k _ _ _ _ (by decide), gI_sI_k _ _ _ _ (by decide), gI_sA, f4]; simp [al, hmf]
            · rw [gI_sI_k _ _ _ _ (by decide), gI_sI_k _ _ _ _ (by decide), gI_sA, f5]; simp [mo, hmf]
            · rw [gI_sI_k _ _ _ _ (by decide), gI_sI_s]
            · rw [gI_sI_s, if_neg (by omega), fg, if_neg (by omega), show nc b - 1 = i by omega]
      simp only [ize]
      refine cne (by omega) (fun e2 => ?_) (fun e2 => ?_)
      · exact k59 σ1 (ag_r _) (fun z => absurd z e2)
      · refine c_moveOnTo hB hi2 (by omega) (fun j hj => (hA1.2.2 j hj).2.1) (fun h0 => hR e2 h0) (fun σ2 hp2 hR2 => ?_)
        exact k59 σ2 hp2 (fun _ => hR2)
  · simp only [gI_sI]; simp [mc]
  · simp only [gI_sI]; simp [al]
  · simp only [gI_sI]; simp [mo]
  · simp only [gI_sI]; simp [lg]
  · rw [gI_sI_s]
    by_cases q : 0 < nc b
    · rw [if_pos q]
    · rw [if_neg q, fg, if_pos (by omega)]
