def bl_X0_expectNext_65 (K : SS → Prop) (L4 : SS → Int32 → Int32 → Prop) (p0 : Nat) (σ : SS) (x1 : Int32) (x2 : Int32) : Prop :=
  vp_in x2 40 ∧ (vp_in x2 40 ∧ (vp_in x2 40 ∧ ((1 ≤ (if (gI σ p0 9) < (x2 + 1) then (gI σ p0 9) else (x2 + 1)) → (¬ (if (gI σ p0 9) < (x2 + 1) then (gI σ p0 9) else (x2 + 1)) = 0 ∧ (vp_in x2 40 ∧ (L4 (sA (sA (sA σ (p0 + 5) x2.toNatClampNeg (x1 + (((if (gI σ p0 9) < (x2 + 1) then (gI σ p0 9) else (x2 + 1)) * ((gA σ (p0 + 3) x2.toNatClampNeg) + 1)) * (gI σ p0 8)))) (p0 + 6) x2.toNatClampNeg (if (gI σ p0 9) < (x2 + 1) then (gI σ p0 9) else (x2 + 1))) (p0 + 7) x2.toNatClampNeg ((((x1 + (((if (gI σ p0 9) < (x2 + 1) then (gI σ p0 9) else (x2 + 1)) * ((gA σ (p0 + 3) x2.toNatClampNeg) + 1)) * (gI σ p0 8))) + (if (gI σ p0 9) < (x2 + 1) then (gI σ p0 9) else (x2 + 1))) - 1) / (if (gI σ p0 9) < (x2 + 1) then (gI σ p0 9) else (x2 + 1)))) x1 (x2 + 1))))) ∧ (¬ 1 ≤ (if (gI σ p0 9) < (x2 + 1) then (gI σ p0 9) else (x2 + 1)) → (vp_in x2 40 ∧ (L4 (sA (sA (sA σ (p0 + 5) x2.toNatClampNeg (x1 + (((if (gI σ p0 9) < (x2 + 1) then (gI σ p0 9) else (x2 + 1)) * ((gA σ (p0 + 3) x2.toNatClampNeg) + 1)) * (gI σ p0 8)))) (p0 + 6) x2.toNatClampNeg (if (gI σ p0 9) < (x2 + 1) then (gI σ p0 9) else (x2 + 1))) (p0 + 7) x2.toNatClampNeg 1000000) x1 (x2 + 1)))))))
def lb_X0_expectNext_4 (K : SS → Prop) (p0 : Nat) (L4 : SS → Int32 → Int32 → Prop) (σ : SS) (x1 : Int32) (x2 : Int32) : Prop :=
  ((gI σ p0 7) ≤ x2 → (K σ)) ∧ (¬ (gI σ p0 7) ≤ x2 → (vp_in x2 40 ∧ (vp_in x2 40 ∧ (((x2 - (gI σ p0 9)) < 0 → (bl_X0_expectNext_65 K L4 p0 σ (x1 + ((gA σ (p0 + 4) x2.toNatClampNeg) - ((gA σ (p0 + 3) x2.toNatClampNeg) * (gI σ p0 8)))) x2)) ∧ (¬ (x2 - (gI σ p0 9)) < 0 → (vp_in (x2 - (gI σ p0 9)) 40 ∧ (vp_in (x2 - (gI σ p0 9)) 40 ∧ (bl_X0_expectNext_65 K L4 p0 σ ((x1 + ((gA σ (p0 + 4) x2.toNatClampNeg) - ((gA σ (p0 + 3) x2.toNatClampNeg) * (gI σ p0 8)))) - ((gA σ (p0 + 4) (x2 - (gI σ p0 9)).toNatClampNeg) - ((gA σ (p0 + 3) (x2 - (gI σ p0 9)).toNatClampNeg) * (gI σ p0 8)))) x2))))))))
def wp_X0_expectNext (σ : SS) (p0 : Nat) (K : SS → Prop) : Prop :=
  ∃ n, fx3 (lb_X0_expectNext_4 K p0) n σ 0 0
def lb_X0_numberNews_7 (K : SS → Prop) (p0 : Nat) (L7 : SS → Int32 → Int32 → Prop) (σ : SS) (x1 : Int32) (x2 : Int32) : Prop :=
  (x1 ≤ x2 → (K σ)) ∧ (¬ x1 ≤ x2 → (vp_in x2 40 ∧ (((gA σ (p0 + 2) x2.toNatClampNeg) = (-1) → (L7 σ x1 (x2 + 1))) ∧ (¬ (gA σ (p0 + 2) x2.toNatClampNeg) = (-1) → (vp_in x2 40 ∧ (vp_in (gI σ p0 7) 40 ∧ (vp_in x2 40 ∧ (vp_in (gI σ p0 7) 40 ∧ (L7 (sI (sA (sA (sA σ (p0 + 2) x2.toNatClampNeg (gI σ p0 7)) (p0 + 3) (gI σ p0 7).toNatClampNeg x2) (p0 + 4) (gI σ p0 7).toNatClampNeg (gA (sA (sA σ (p0 + 2) x2.toNatClampNeg (gI σ p0 7)) (p0 + 3) (gI σ p0 7).toNatClampNeg x2) (p0 + 1) x2.toNatClampNeg)) p0 7 ((gI σ p0 7) + 1)) x1 (x2 + 1))))))))))
def wp_X0_numberNews (σ : SS) (p0 : Nat) (x1 : Int32) (K : SS → Prop) : Prop :=
  ∃ n, fx3 (lb_X0_numberNews_7 K p0) n (sI σ p0 7 0) x1 0
def bl_X0_follow_122 (K : SS → Prop) (L20 : SS → Int32 → Int32 → Int32 → Int32 → Int32 → Prop) (p0 : Nat) (p1 : Nat) (σ : SS) (x2 : Int32) (x3 : Int32) (x5 : Int32) (x6 : Int32) (x7 : Int32) (x10 : Int32) (x11 : Int32) (k0 : Int32) (k1 : Int32) : Prop :=
  vp_in k1 40 ∧ ((x11 = 0 → (L20 (sA σ (p0 + 2) k1.toNatClampNeg k0) x2 x3 x5 x6 (x7 + (-1)))) ∧ (¬ x11 = 0 → (L20 (sA σ (p0 + 2) k1.toNatClampNeg k0) x2 x3 x5 x10 (x7 + (-1)))))
def bl_X0_follow_94 (K : SS → Prop) (L20 : SS → Int32 → Int32 → Int32 → Int32 → Int32 → Prop) (p0 : Nat) (p1 : Nat) (σ : SS) (x2 : Int32) (x3 : Int32) (x5 : Int32) (x6 : Int32) (x7 : Int32) (x10 : Int32) (k0 : Int32) : Prop :=
  vp_in x7 40 ∧ ((k0 = 0 → (bl_X0_follow_122 K L20 p0 p1 (sA σ (p0 + 1) x7.toNatClampNeg x10) x2 x3 x5 x6 x7 x10 k0 (-1) x7)) ∧ (¬ k0 = 0 → (bl_X0_follow_122 K L20 p0 p1 (sA σ (p0 + 1) x7.toNatClampNeg x10) x2 x3 x5 x6 x7 x10 k0 x7 x7)))
def bl_X0_follow_75 (K : SS → Prop) (L20 : SS → Int32 → Int32 → Int32 → Int32 → Int32 → Prop) (p0 : Nat) (p1 : Nat) (σ : SS) (x2 : Int32) (x3 : Int32) (x5 : Int32) (x6 : Int32) (x7 : Int32) (x9 : Int32) (k0 : Int32) : Prop :=
  (¬ x9 = 0 → (bl_X0_follow_94 K L20 p0 p1 σ x2 x3 x5 x6 x7 k0 0)) ∧ (x9 = 0 → ((x6 < k0 → (bl_X0_follow_94 K L20 p0 p1 σ x2 x3 x5 x6 x7 k0 0)) ∧ (¬ x6 < k0 → (bl_X0_follow_94 K L20 p0 p1 σ x2 x3 x5 x6 x7 k0 1))))
def bl_X0_follow_57 (K : SS → Prop) (L20 : SS → Int32 → Int32 → Int32 → Int32 → Int32 → Prop) (p0 : Nat) (p1 : Nat) (σ : SS) (x2 : Int32) (x3 : Int32) (x5 : Int32) (x6 : Int32) (x7 : Int32) (x8 : Int32) (k0 : Int32) : Prop :=
  (k0 = 0 → (vp_in x7 40 ∧ (bl_X0_follow_75 K L20 p0 p1 σ x2 x3 x5 x6 x7 k0 (x8 + (gA σ p1 x7.toNatClampNeg))))) ∧ (¬ k0 = 0 → (bl_X0_follow_75 K L20 p0 p1 σ x2 x3 x5 x6 x7 k0 (-1)))
def lb_X0_follow_20 (K : SS → Prop) (p0 : Nat) (p1 : Nat) (L20 : SS → Int32 → Int32 → Int32 → Int32 → Int32 → Prop) (σ : SS) (x2 : Int32) (x3 : Int32) (x5 : Int32) (x6 : Int32) (x7 : Int32) : Prop :=
  (x7 < 0 → (wp_X0_numberNews σ p0 x2 (fun (σ145 : SS) => wp_X0_expectNext σ145 p0 (fun (σ149 : SS) => K σ149)))) ∧ (¬ x7 < 0 → (vp_in x7 40 ∧ (((gA σ p1 x7.toNatClampNeg) = (-1) → (bl_X0_follow_57 K L20 p0 p1 σ x2 x3 x5 x6 x7 (x7 * x3) 1)) ∧ (¬ (gA σ p1 x7.toNatClampNeg) = (-1) → ((x5 = (-1) → (bl_X0_follow_57 K L20 p0 p1 σ x2 x3 x5 x6 x7 (x7 * x3) 0)) ∧ (¬ x5 = (-1) → (((x7 * x3) < x5 → (bl_X0_follow_57 K L20 p0 p1 σ x2 x3 x5 x6 x7 (x7 * x3) 0)) ∧ (¬ (x7 * x3) < x5 → (bl_X0_follow_57 K L20 p0 p1 σ x2 x3 x5 x6 x7 (x7 * x3) 1)))))))))
def wp_X0_follow (σ : SS) (p0 : Nat) (p1 : Nat) (x2 : Int32) (x3 : Int32) (x4 : Int32) (x5 : Int32) (K : SS → Prop) : Prop :=
  ∃ n, fx6 (lb_X0_follow_20 K p0 p1) n (sI (sI σ p0 8 x3) p0 9 x4) x2 x3 x5 1000000 (x2 - 1)
def lb_X0_latestAt_4 (K : SS → Int32 → Prop) (p0 : Nat) (L4 : SS → Int32 → Int32 → Int32 → Prop) (σ : SS) (x1 : Int32) (x2 : Int32) (x3 : Int32) : Prop :=
  ((gI σ p0 7) ≤ x3 → (K σ x2)) ∧ (¬ (gI σ p0 7) ≤ x3 → (vp_in x3 40 ∧ ((x1 < (gA σ (p0 + 4) x3.toNatClampNeg) → (K σ x2)) ∧ (¬ x1 < (gA σ (p0 + 4) x3.toNatClampNeg) → (L4 σ x1 x3 (x3 + 1))))))
def wp_X0_latestAt (σ : SS) (p0 : Nat) (x1 : Int32) (K : SS → Int32 → Prop) : Prop :=
  ∃ n, fx4 (lb_X0_latestAt_4 K p0) n σ x1 (-1) 0
def wp_X0_gapCountBy (σ : SS) (p0 : Nat) (x1 : Int32) (K : SS → Int32 → Prop) : Prop :=
  K σ (if (gI σ p0 9) < x1 then (gI σ p0 9) else x1)
def lb_X0_countGapsBelow_5 (K : SS → Int32 → Prop) (p0 : Nat) (L5 : SS → Int32 → Int32 → Int32 → Int32 → Prop) (σ : SS) (x1 : Int32) (x2 : Int32) (x3 : Int32) (x4 : Int32) : Prop :=
  wp_X0_gapCountBy σ p0 x1 (fun (σ10 : SS) (r10 : Int32) => (x4 ≤ (x1 - r10) → (K σ10 x3)) ∧ (¬ x4 ≤ (x1 - r10) → (vp_in x4 40 ∧ (vp_in (x4 - 1) 40 ∧ ((x2 ≤ ((gA σ10 (p0 + 4) x4.toNatClampNeg) - (gA σ10 (p0 + 4) (x4 - 1).toNatClampNeg)) → (L5 σ10 x1 x2 x3 (x4 + (-1)))) ∧ (¬ x2 ≤ ((gA σ10 (p0 + 4) x4.toNatClampNeg) - (gA σ10 (p0 + 4) (x4 - 1).toNatClampNeg)) → (L5 σ10 x1 x2 (x3 + 1) (x4 + (-1)))))))))
def wp_X0_countGapsBelow (σ : SS) (p0 : Nat) (x1 : Int32) (x2 : Int32) (K : SS → Int32 → Prop) : Prop :=
  ∃ n, fx5 (lb_X0_countGapsBelow_5 K p0) n σ x1 x2 0 x1
def wp_X0_offOf (σ : SS) (p0 : Nat) (x1 : Int32) (K : SS → UInt64 → Prop) : Prop :=
  vp_in (x1 - 1) 40 ∧ (vp_in x1 40 ∧ (vp_in (x1 - 1) 40 ∧ ((1 ≤ (gA σ (p0 + 6) (x1 - 1).toNatClampNeg) → (vf_n64 (FP.ddiv (FP.i2d (((gA σ (p0 + 4) x1.toNatClampNeg) * (gA σ (p0 + 6) (x1 - 1).toNatClampNeg)) - (gA σ (p0 + 5) (x1 - 1).toNatClampNeg))) (FP.i2d (gA σ (p0 + 6) (x1 - 1).toNatClampNeg))) ∧ (K σ (FP.ddiv (FP.i2d (((gA σ (p0 + 4) x1.toNatClampNeg) * (gA σ (p0 + 6) (x1 - 1).toNatClampNeg)) - (gA σ (p0 + 5) (x1 - 1).toNatClampNeg))) (FP.i2d (gA σ (p0 + 6) (x1 - 1).toNatClampNeg)))))) ∧ (¬ 1 ≤ (gA σ (p0 + 6) (x1 - 1).toNatClampNeg) → (K σ FP.dconst0)))))
def wp_X2_lengthAbove (σ : SS) (p0 : Nat) (x1 : Int32) (K : SS → Int32 → Prop) : Prop :=
  ((((x1 * (gI σ p0 1)) + 9) / 10) < 1 → (K σ (-1))) ∧ (¬ (((x1 * (gI σ p0 1)) + 9) / 10) < 1 → (((gI σ p0 1) < (((x1 * (gI σ p0 1)) + 9) / 10) → (K σ (-1))) ∧ (¬ (gI σ p0 1) < (((x1 * (gI σ p0 1)) + 9) / 10) → (vp_in ((((x1 * (gI σ p0 1)) + 9) / 10) - 1) 16 ∧ (K σ ((gA σ (p0 + 1) ((((x1 * (gI σ p0 1)) + 9) / 10) - 1).toNatClampNeg) + 1))))))
def wp_X1_beginOfDoubt (σ : SS) (p0 : Nat) (p1 : Nat) (x2 : Int32) (x3 : Int32) (x4 : Int32) (K : SS → Int32 → Prop) : Prop :=
  vp_in x2 40 ∧ ((x3 = 0 → (vp_in x2 40 ∧ (K σ (if (gA σ (p1 + 4) x2.toNatClampNeg) < ((gA σ (p1 + 7) x2.toNatClampNeg) + x4) then ((gA σ (p1 + 7) x2.toNatClampNeg) + x4) else (gA σ (p1 + 4) x2.toNatClampNeg))))) ∧ (x3 = 1 → (wp_X2_lengthAbove σ (p0 + 3) x4 (fun (σ57 : SS) (r57 : Int32) => (¬ r57 = (-1) → (K σ57 ((gA σ (p1 + 4) x2.toNatClampNeg) + r57))) ∧ (r57 = (-1) → (K σ57 (-1)))))) ∧ (x3 = 2 → (K σ ((gA σ (p1 + 4) x2.toNatClampNeg) + x4))) ∧ (¬ x3 = 0 → ¬ x3 = 1 → ¬ x3 = 2 → (vp_in x2 40 ∧ (K σ (if (gA σ (p1 + 4) x2.toNatClampNeg) < ((gA σ (p1 + 7) x2.toNatClampNeg) + (x4 * ((gI σ p0 3) + 1))) then ((gA σ (p1 + 7) x2.toNatClampNeg) + (x4 * ((gI σ p0 3) + 1))) else (gA σ (p1 + 4) x2.toNatClampNeg))))))
def wp_X1_noteDoubt (σ : SS) (p0 : Nat) (p1 : Nat) (x2 : Int32) (x3 : Int32) (K : SS → Prop) : Prop :=
  ((x2 + 1) < (gI σ p1 7) → (vp_in (x2 + 1) 40 ∧ ((((gA σ (p1 + 4) (x2 + 1).toNatClampNeg) - x3) ≤ 0 → (K σ)) ∧ (¬ ((gA σ (p1 + 4) (x2 + 1).toNatClampNeg) - x3) ≤ 0 → (vp_in (gI σ p0 3) 40 ∧ (K (sI (sI (sI (sA σ (p0 + 2) (gI σ p0 3).toNatClampNeg x2) p0 3 ((gI σ p0 3) + 1)) p0 4 ((gI (sI (sA σ (p0 + 2) (gI σ p0 3).toNatClampNeg x2) p0 3 ((gI σ p0 3) + 1)) p0 4) + ((gA σ (p1 + 4) (x2 + 1).toNatClampNeg) - x3))) p0 5 (if (gI (sI (sI (sA σ (p0 + 2) (gI σ p0 3).toNatClampNeg x2) p0 3 ((gI σ p0 3) + 1)) p0 4 ((gI (sI (sA σ (p0 + 2) (gI σ p0 3).toNatClampNeg x2) p0 3 ((gI σ p0 3) + 1)) p0 4) + ((gA σ (p1 + 4) (x2 + 1).toNatClampNeg) - x3))) p0 5) < ((gA σ (p1 + 4) (x2 + 1).toNatClampNeg) - x3) then ((gA σ (p1 + 4) (x2 + 1).toNatClampNeg) - x3) else (gI (sI (sI (sA σ (p0 + 2) (gI σ p0 3).toNatClampNeg x2) p0 3 ((gI σ p0 3) + 1)) p0 4 ((gI (sI (sA σ (p0 + 2) (gI σ p0 3).toNatClampNeg x2) p0 3 ((gI σ p0 3) + 1)) p0 4) + ((gA σ (p1 + 4) (x2 + 1).toNatClampNeg) - x3))) p0 5))))))))) ∧ (¬ (x2 + 1) < (gI σ p1 7) → (K (sI σ p0 7 x3)))
def bl_X2_takeIn_54 (K : SS → Prop) (p0 : Nat) (σ : SS) (x1 : Int32) (x2 : Int32) : Prop :=
  vp_in x2 16 ∧ (K (sI (sA σ (p0 + 1) x2.toNatClampNeg x1) p0 1 ((gI σ p0 1) + 1)))
def lb_X2_takeIn_18 (K : SS → Prop) (p0 : Nat) (L18 : SS → Int32 → Int32 → Prop) (σ : SS) (x1 : Int32) (x2 : Int32) : Prop :=
  (x2 ≤ 0 → (bl_X2_takeIn_54 K p0 σ x1 x2)) ∧ (¬ x2 ≤ 0 → (vp_in (x2 - 1) 16 ∧ (((gA σ (p0 + 1) (x2 - 1).toNatClampNeg) ≤ x1 → (bl_X2_takeIn_54 K p0 σ x1 x2)) ∧ (¬ (gA σ (p0 + 1) (x2 - 1).toNatClampNeg) ≤ x1 → (vp_in (x2 - 1) 16 ∧ (vp_in x2 16 ∧ (L18 (sA σ (p0 + 1) x2.toNatClampNeg (gA σ (p0 + 1) (x2 - 1).toNatClampNeg)) x1 (x2 + (-1)))))))))
def wp_X2_takeIn (σ : SS) (p0 : Nat) (x1 : Int32) (K : SS → Prop) : Prop :=
  ((gI σ p0 1) < 16 → (∃ n, fx3 (lb_X2_takeIn_18 K p0) n σ x1 (gI σ p0 1))) ∧ (¬ (gI σ p0 1) < 16 → (K σ))
def lb_X2_takeOut_39 (K : SS → Prop) (p0 : Nat) (L39 : SS → Int32 → Prop) (σ : SS) (x3 : Int32) : Prop :=
  ((gI σ p0 1) ≤ x3 → (K (sI σ p0 1 ((gI σ p0 1) - 1)))) ∧ (¬ (gI σ p0 1) ≤ x3 → (vp_in x3 16 ∧ (vp_in (x3 - 1) 16 ∧ (L39 (sA σ (p0 + 1) (x3 - 1).toNatClampNeg (gA σ (p0 + 1) x3.toNatClampNeg)) (x3 + 1)))))
def bl_X2_takeOut_26 (K : SS → Prop) (p0 : Nat) (σ : SS) (x2 : Int32) : Prop :=
  (x2 < (gI σ p0 1) → (∃ n, fx2 (lb_X2_takeOut_39 K p0) n σ (x2 + 1))) ∧ (¬ x2 < (gI σ p0 1) → (K σ))
def lb_X2_takeOut_2 (K : SS → Prop) (p0 : Nat) (L2 : SS → Int32 → Int32 → Prop) (σ : SS) (x1 : Int32) (x2 : Int32) : Prop :=
  ((gI σ p0 1) ≤ x2 → (bl_X2_takeOut_26 K p0 σ x2)) ∧ (¬ (gI σ p0 1) ≤ x2 → (vp_in x2 16 ∧ (((gA σ (p0 + 1) x2.toNatClampNeg) = x1 → (bl_X2_takeOut_26 K p0 σ x2)) ∧ (¬ (gA σ (p0 + 1) x2.toNatClampNeg) = x1 → (L2 σ x1 (x2 + 1))))))
def wp_X2_takeOut (σ : SS) (p0 : Nat) (x1 : Int32) (K : SS → Prop) : Prop :=
  ∃ n, fx3 (lb_X2_takeOut_2 K p0) n σ x1 0
def bl_X2_moveOnTo_36 (K : SS → Prop) (p0 : Nat) (p2 : Nat) (σ : SS) (x1 : Int32) : Prop :=
  vp_in x1 40 ∧ (vp_in (x1 - 1) 40 ∧ (wp_X2_takeIn σ p0 ((gA σ p2 x1.toNatClampNeg) - (gA σ p2 (x1 - 1).toNatClampNeg)) (fun (σ46 : SS) => K σ46)))
def wp_X2_moveOnTo (σ : SS) (p0 : Nat) (x1 : Int32) (p2 : Nat) (x3 : Int32) (K : SS → Prop) : Prop :=
  (¬ x1 = 0 → (((x1 - x3) < 1 → (bl_X2_moveOnTo_36 K p0 p2 σ x1)) ∧ (¬ (x1 - x3) < 1 → (vp_in (x1 - x3) 40 ∧ (vp_in ((x1 - x3) - 1) 40 ∧ (wp_X2_takeOut σ p0 ((gA σ p2 (x1 - x3).toNatClampNeg) - (gA σ p2 ((x1 - x3) - 1).toNatClampNeg)) (fun (σ33 : SS) => bl_X2_moveOnTo_36 K p0 p2 σ33 x1))))))) ∧ (x1 = 0 → (K (sI σ p0 1 0)))
def bl_X1_keep_59 (K : SS → Prop) (L28 : SS → Int32 → Int32 → Int32 → Prop) (p0 : Nat) (p1 : Nat) (σ : SS) (x2 : Int32) (x3 : Int32) (x4 : Int32) : Prop :=
  wp_X1_beginOfDoubt σ p0 p1 x4 x2 x3 (fun (σ65 : SS) (r65 : Int32) => vp_in x4 40 ∧ ((r65 = (-1) → (L28 (sA σ65 (p0 + 1) x4.toNatClampNeg r65) x2 x3 (x4 + 1))) ∧ (¬ r65 = (-1) → (vp_in x4 40 ∧ (wp_X1_noteDoubt (sI (sA σ65 (p0 + 1) x4.toNatClampNeg r65) p0 6 (if (gI σ65 p0 6) < (r65 - ((gA (sA σ65 (p0 + 1) x4.toNatClampNeg r65) (p1 + 3) x4.toNatClampNeg) * (gI σ65 p1 8))) then (r65 - ((gA (sA σ65 (p0 + 1) x4.toNatClampNeg r65) (p1 + 3) x4.toNatClampNeg) * (gI σ65 p1 8))) else (gI σ65 p0 6))) p0 p1 x4 r65 (fun (σ117 : SS) => L28 σ117 x2 x3 (x4 + 1)))))))
def lb_X1_keep_28 (K : SS → Prop) (p0 : Nat) (p1 : Nat) (L28 : SS → Int32 → Int32 → Int32 → Prop) (σ : SS) (x2 : Int32) (x3 : Int32) (x4 : Int32) : Prop :=
  ((gI σ p1 7) ≤ x4 → (K σ)) ∧ (¬ (gI σ p1 7) ≤ x4 → ((¬ x2 = 1 → (bl_X1_keep_59 K L28 p0 p1 σ x2 x3 x4)) ∧ (x2 = 1 → (wp_X2_moveOnTo σ (p0 + 3) x4 (p1 + 4) (gI σ p1 9) (fun (σ56 : SS) => bl_X1_keep_59 K L28 p0 p1 σ56 x2 x3 x4)))))
def wp_X1_keep (σ : SS) (p0 : Nat) (p1 : Nat) (x2 : Int32) (x3 : Int32) (K : SS → Prop) : Prop :=
  ∃ n, fx4 (lb_X1_keep_28 K p0 p1) n (sI (sI (sI (sI (sI σ p0 3 0) p0 4 0) p0 5 0) p0 6 (-1)) p0 7 (-1)) x2 x3 0
def wp_X3_putNumber (σ : SS) (p0 : Nat) (x1 : Int32) (x2 : UInt64) (K : SS → Prop) : Prop :=
  vp_in x1 40 ∧ (vp_in x1 40 ∧ (K (sA (sD σ (p0 + 2) x1.toNatClampNeg x2) (p0 + 3) x1.toNatClampNeg (vp_nar .boolean 0))))
def lb_X3_begin_17 (K : SS → Prop) (p0 : Nat) (L17 : SS → Int32 → Int32 → Prop) (σ : SS) (x2 : Int32) (x3 : Int32) : Prop :=
  (x2 ≤ x3 → (K σ)) ∧ (¬ x2 ≤ x3 → (vp_in x3 40 ∧ (wp_X3_putNumber (sL σ (p0 + 1) x3.toNatClampNeg 0) p0 x3 FP.dconst0 (fun (σ32 : SS) => L17 σ32 x2 (x3 + 1)))))
def wp_X3_begin (σ : SS) (p0 : Nat) (x1 : Int32) (x2 : Int32) (K : SS → Prop) : Prop :=
  ∃ n, fx3 (lb_X3_begin_17 K p0) n (sI (sI (sI σ p0 0 0) p0 1 x1) p0 2 x2) x2 0
def wp_X3_hasItems (σ : SS) (p0 : Nat) (x1 : Int32) (x2 : Int32) (K : SS → Int32 → Prop) : Prop :=
  (x1 < 0 → (K σ 0)) ∧ (¬ x1 < 0 → ((x2 < 0 → (K σ 0)) ∧ (¬ x2 < 0 → (((gI σ p0 2) < x1 → (K σ 0)) ∧ (¬ (gI σ p0 2) < x1 → ((((gI σ p0 2) - x1) < x2 → (K σ 0)) ∧ (¬ ((gI σ p0 2) - x1) < x2 → (K σ 1))))))))
def bl_X3_takeItems_27 (K : SS → Prop) (L3 : SS → Int32 → Int32 → Int32 → Int32 → Prop) (p0 : Nat) (p1 : Nat) (σ : SS) (x2 : Int32) (x3 : Int32) (x4 : Int32) (x5 : Int32) (k0 : Int32) : Prop :=
  vp_in (x2 + k0) 40 ∧ (vp_in (x3 + k0) 40 ∧ (vp_in (x2 + k0) 40 ∧ (vp_in (x3 + k0) 40 ∧ (vp_in (x2 + k0) 40 ∧ (vp_in (x3 + k0) 40 ∧ (L3 (sA (sD (sL σ (p0 + 1) (x3 + k0).toNatClampNeg (gL σ (p1 + 1) (x2 + k0).toNatClampNeg)) (p0 + 2) (x3 + k0).toNatClampNeg (gD σ (p1 + 2) (x2 + k0).toNatClampNeg)) (p0 + 3) (x3 + k0).toNatClampNeg (vp_nar .boolean (gA σ (p1 + 3) (x2 + k0).toNatClampNeg))) x2 x3 x4 (x5 + 1)))))))
def lb_X3_takeItems_3 (K : SS → Prop) (p0 : Nat) (p1 : Nat) (L3 : SS → Int32 → Int32 → Int32 → Int32 → Prop) (σ : SS) (x2 : Int32) (x3 : Int32) (x4 : Int32) (x5 : Int32) : Prop :=
  (x4 ≤ x5 → (K σ)) ∧ (¬ x4 ≤ x5 → ((x2 < x3 → (bl_X3_takeItems_27 K L3 p0 p1 σ x2 x3 x4 x5 ((x4 - 1) - x5))) ∧ (¬ x2 < x3 → (bl_X3_takeItems_27 K L3 p0 p1 σ x2 x3 x4 x5 x5))))
def wp_X3_takeItems (σ : SS) (p0 : Nat) (p1 : Nat) (x2 : Int32) (x3 : Int32) (x4 : Int32) (K : SS → Prop) : Prop :=
  ∃ n, fx5 (lb_X3_takeItems_3 K p0 p1) n σ x2 x3 x4 0
def lb_X3_countNoNumbers_4 (K : SS → Int32 → Prop) (p0 : Nat) (L4 : SS → Int32 → Int32 → Prop) (σ : SS) (x1 : Int32) (x2 : Int32) : Prop :=
  ((gI σ p0 2) ≤ x2 → (K σ x1)) ∧ (¬ (gI σ p0 2) ≤ x2 → (vp_in x2 40 ∧ (((gA σ (p0 + 3) x2.toNatClampNeg) = 0 → (L4 σ x1 (x2 + 1))) ∧ (¬ (gA σ (p0 + 3) x2.toNatClampNeg) = 0 → (L4 σ (x1 + 1) (x2 + 1))))))
def wp_X3_countNoNumbers (σ : SS) (p0 : Nat) (K : SS → Int32 → Prop) : Prop :=
  ∃ n, fx3 (lb_X3_countNoNumbers_4 K p0) n σ 0 0
def lb_X3_countAbove_5 (K : SS → Int32 → Prop) (p0 : Nat) (L5 : SS → UInt64 → Int32 → Int32 → Prop) (σ : SS) (x1 : UInt64) (x3 : Int32) (x4 : Int32) : Prop :=
  ((gI σ p0 2) ≤ x4 → (K σ x3)) ∧ (¬ (gI σ p0 2) ≤ x4 → (vp_in x4 40 ∧ ((¬ (gA σ (p0 + 3) x4.toNatClampNeg) = 0 → (L5 σ x1 x3 (x4 + 1))) ∧ ((gA σ (p0 + 3) x4.toNatClampNeg) = 0 → (vp_in x4 40 ∧ (((Op.cmpValue (FP.dcmp (gD σ (p0 + 2) x4.toNatClampNeg) x1) CmpOp.l) ≤ 0 → (L5 σ x1 x3 (x4 + 1))) ∧ (¬ (Op.cmpValue (FP.dcmp (gD σ (p0 + 2) x4.toNatClampNeg) x1) CmpOp.l) ≤ 0 → (L5 σ x1 (x3 + 1) (x4 + 1)))))))))
def wp_X3_countAbove (σ : SS) (p0 : Nat) (x1 : UInt64) (K : SS → Int32 → Prop) : Prop :=
  ∃ n, fx4 (lb_X3_countAbove_5 K p0) n σ x1 0 0
def lb_X3_countBelow_5 (K : SS → Int32 → Prop) (p0 : Nat) (L5 : SS → UInt64 → Int32 → Int32 → Prop) (σ : SS) (x1 : UInt64) (x3 : Int32) (x4 : Int32) : Prop :=
  ((gI σ p0 2) ≤ x4 → (K σ x3)) ∧ (¬ (gI σ p0 2) ≤ x4 → (vp_in x4 40 ∧ ((¬ (gA σ (p0 + 3) x4.toNatClampNeg) = 0 → (L5 σ x1 x3 (x4 + 1))) ∧ ((gA σ (p0 + 3) x4.toNatClampNeg) = 0 → (vp_in x4 40 ∧ ((0 ≤ (Op.cmpValue (FP.dcmp (gD σ (p0 + 2) x4.toNatClampNeg) x1) CmpOp.g) → (L5 σ x1 x3 (x4 + 1))) ∧ (¬ 0 ≤ (Op.cmpValue (FP.dcmp (gD σ (p0 + 2) x4.toNatClampNeg) x1) CmpOp.g) → (L5 σ x1 (x3 + 1) (x4 + 1)))))))))
def wp_X3_countBelow (σ : SS) (p0 : Nat) (x1 : UInt64) (K : SS → Int32 → Prop) : Prop :=
  ∃ n, fx4 (lb_X3_countBelow_5 K p0) n σ x1 0 0
def wp_X4_begin (σ : SS) (p0 : Nat) (x1 : Int32) (x2 : Int32) (K : SS → Prop) : Prop :=
  K (sI (sI (sI (sI σ p0 0 x1) p0 1 x2) p0 2 (-1)) p0 3 (-1))
def bl_X4_keepsWishes_19 (K : SS → Int32 → Prop) (p0 : Nat) (p1 : Nat) (σ : SS) : Prop :=
  ((gI σ p0 3) = (-1) → (K σ 1)) ∧ (¬ (gI σ p0 3) = (-1) → (((gI σ p0 3) < (gI σ p1 3) → (K σ 0)) ∧ (¬ (gI σ p0 3) < (gI σ p1 3) → (K σ 1))))
def wp_X4_keepsWishes (σ : SS) (p0 : Nat) (p1 : Nat) (K : SS → Int32 → Prop) : Prop :=
  ((gI σ p0 2) = (-1) → (bl_X4_keepsWishes_19 K p0 p1 σ)) ∧ (¬ (gI σ p0 2) = (-1) → (((gI σ p0 2) < (gI σ p1 6) → (K σ 0)) ∧ (¬ (gI σ p0 2) < (gI σ p1 6) → (bl_X4_keepsWishes_19 K p0 p1 σ))))
def wp_X5_forgetWhatFollowed (σ : SS) (K : SS → Prop) : Prop :=
  K (sI (sI σ 0 10 0) 0 12 0)
def wp_X5_addBeat (σ : SS) (x1 : Int32) (K : SS → Prop) : Prop :=
  vp_in (gI σ 0 1) 40 ∧ (wp_X5_forgetWhatFollowed (sI (sA σ 1 (gI σ 0 1).toNatClampNeg x1) 0 1 ((gI σ 0 1) + 1)) (fun (σ21 : SS) => K σ21))
def wp_X5_isWithin (σ : SS) (x0 : Int64) (x2 : Int32) (x3 : Int32) (K : SS → Int32 → Prop) : Prop :=
  ((lg_cmp x0 x2.toInt64) < 0 → (K σ 0)) ∧ (¬ (lg_cmp x0 x2.toInt64) < 0 → ((0 < (lg_cmp x0 x3.toInt64) → (K σ 0)) ∧ (¬ 0 < (lg_cmp x0 x3.toInt64) → (K σ 1))))
def wp_X5_isDelay (σ : SS) (x0 : Int64) (K : SS → Int32 → Prop) : Prop :=
  ((lg_cmp x0 (-1)) = 0 → (K σ 1)) ∧ (¬ (lg_cmp x0 (-1)) = 0 → (wp_X5_isWithin σ x0 0 99 (fun (σ12 : SS) (r12 : Int32) => (r12 = 0 → (K σ12 0)) ∧ (¬ r12 = 0 → (K σ12 1)))))
def wp_X5_beat (σ : SS) (x1 : Int32) (K : SS → Int32 → Prop) : Prop :=
  wp_X5_isDelay σ x1.toInt64 (fun (σ2 : SS) (r2 : Int32) => (¬ r2 = 0 → (((gI σ2 0 1) < 40 → (wp_X5_addBeat σ2 x1 (fun (σ25 : SS) => K σ25 (gI σ25 0 1)))) ∧ (¬ (gI σ2 0 1) < 40 → (K σ2 (-4))))) ∧ (r2 = 0 → (K σ2 (-2))))
def wp_J9_floorMod_7cf53 (σ : SS) (x0 : Int32) (x1 : Int32) (K : SS → Int32 → Prop) : Prop :=
  ¬ x1 = 0 ∧ ((0 ≤ (x0 ^^^ x1) → (K σ (x0 - x0 / x1 * x1))) ∧ (¬ 0 ≤ (x0 ^^^ x1) → (((x0 - x0 / x1 * x1) = 0 → (K σ (x0 - x0 / x1 * x1))) ∧ (¬ (x0 - x0 / x1 * x1) = 0 → (K σ ((x0 - x0 / x1 * x1) + x1))))))
def lb_X5_beats_56 (K : SS → Int32 → Prop) (L56 : SS → Int32 → Int32 → Int32 → Int32 → Prop) (σ : SS) (x2 : Int32) (x4 : Int32) (x5 : Int32) (x6 : Int32) : Prop :=
  (x4 ≤ x6 → (K σ x4)) ∧ (¬ x4 ≤ x6 → (wp_X5_addBeat σ x5 (fun (σ66 : SS) => wp_J9_floorMod_7cf53 σ66 (x5 + x2) 100 (fun (σ75 : SS) (r75 : Int32) => L56 σ75 x2 x4 r75 (x6 + 1)))))
def wp_X5_beats (σ : SS) (x1 : Int32) (x2 : Int32) (x3 : Int32) (K : SS → Int32 → Prop) : Prop :=
  wp_X5_isWithin σ x1.toInt64 0 99 (fun (σ5 : SS) (r5 : Int32) => (r5 = 0 → (K σ5 (-2))) ∧ (¬ r5 = 0 → (wp_X5_isWithin σ5 x2.toInt64 (-99) 99 (fun (σ17 : SS) (r17 : Int32) => (r17 = 0 → (K σ17 (-2))) ∧ (¬ r17 = 0 → (wp_X5_isWithin σ17 x3.toInt64 1 40 (fun (σ28 : SS) (r28 : Int32) => (¬ r28 = 0 → (∃ n, fx5 (lb_X5_beats_56 K) n σ28 x2 (if (40 - (gI σ28 0 1)) < x3 then (40 - (gI σ28 0 1)) else x3) x1 0)) ∧ (r28 = 0 → (K σ28 (-2))))))))))
def wp_X5_delay (σ : SS) (x1 : Int32) (x2 : Int32) (K : SS → Int32 → Prop) : Prop :=
  wp_X5_isWithin σ x1.toInt64 0 ((gI σ 0 1) - 1) (fun (σ9 : SS) (r9 : Int32) => (r9 = 0 → (K σ9 (-2))) ∧ (¬ r9 = 0 → (wp_X5_isDelay σ9 x2.toInt64 (fun (σ17 : SS) (r17 : Int32) => (¬ r17 = 0 → (vp_in x1 40 ∧ (vp_in x1 40 ∧ (wp_X5_forgetWhatFollowed (sA σ17 1 x1.toNatClampNeg x2) (fun (σ41 : SS) => K σ41 (gA σ17 1 x1.toNatClampNeg)))))) ∧ (r17 = 0 → (K σ17 (-2)))))))
def wp_X5_back (σ : SS) (K : SS → Int32 → Prop) : Prop :=
  (¬ (gI σ 0 1) = 0 → (wp_X5_forgetWhatFollowed (sI σ 0 1 ((gI σ 0 1) - 1)) (fun (σ21 : SS) => K σ21 (gI σ21 0 1)))) ∧ ((gI σ 0 1) = 0 → (K σ (-3)))
def bl_X5_set_11 (K : SS → Int32 → Prop) (σ : SS) (x1 : Int32) (x2 : Int32) (k0 : Int32) : Prop :=
  wp_X5_isWithin σ x1.toInt64 0 1 (fun (σ16 : SS) (r16 : Int32) => (r16 = 0 → (K σ16 (-2))) ∧ (¬ r16 = 0 → (wp_X5_isWithin σ16 x2.toInt64 1 k0 (fun (σ26 : SS) (r26 : Int32) => (¬ r26 = 0 → (wp_X5_forgetWhatFollowed σ26 (fun (σ36 : SS) => (¬ x1 = 0 → (K (sI σ36 0 3 x2) (gI σ36 0 3))) ∧ (x1 = 0 → (K (sI σ36 0 2 x2) (gI σ36 0 2)))))) ∧ (r26 = 0 → (K σ26 (-2)))))))
def wp_X5_set (σ : SS) (x1 : Int32) (x2 : Int32) (K : SS → Int32 → Prop) : Prop :=
  (¬ x1 = 0 → (bl_X5_set_11 K σ x1 x2 16)) ∧ (x1 = 0 → (bl_X5_set_11 K σ x1 x2 50))
def bl_X5_silence_20 (K : SS → Int32 → Prop) (σ : SS) (x1 : Int32) : Prop :=
  wp_X5_forgetWhatFollowed (sI σ 0 4 x1) (fun (σ31 : SS) => K σ31 (gI σ 0 4))
def wp_X5_silence (σ : SS) (x1 : Int32) (K : SS → Int32 → Prop) : Prop :=
  wp_X5_isWithin σ x1.toInt64 0 5000 (fun (σ6 : SS) (r6 : Int32) => (¬ r6 = 0 → (bl_X5_silence_20 K σ6 x1)) ∧ (r6 = 0 → ((x1 = (-1) → (bl_X5_silence_20 K σ6 x1)) ∧ (¬ x1 = (-1) → (K σ6 (-2))))))
def wp_X5_find (σ : SS) (x1 : Int32) (K : SS → Int32 → Prop) : Prop :=
  K (sI σ 0 8 x1) ((-10) - x1)
def wp_X5_isSheet (σ : SS) (x0 : Int32) (K : SS → Int32 → Prop) : Prop :=
  wp_X5_isWithin σ x0.toInt64 0 3 (fun (σ4 : SS) (r4 : Int32) => (r4 = 0 ∨ r4 = 1) ∧ K σ4 r4)
def wp_X5_refusalOfRow (σ : SS) (x1 : Int32) (x2 : Int32) (K : SS → Int32 → Prop) : Prop :=
  wp_X5_isSheet σ x1 (fun (σ1 : SS) (r1 : Int32) => (¬ r1 = 0 → (vp_in x1 4 ∧ (((gI σ1 (56 + 4 * x1.toNatClampNeg) 0) = 0 → (vp_in x1 4 ∧ ((¬ (gI σ1 (56 + 4 * x1.toNatClampNeg) 1) = x2 → (wp_X5_find σ1 3 (fun (σ47 : SS) (r47 : Int32) => K σ47 r47))) ∧ ((gI σ1 (56 + 4 * x1.toNatClampNeg) 1) = x2 → (K σ1 0))))) ∧ (¬ (gI σ1 (56 + 4 * x1.toNatClampNeg) 0) = 0 → (wp_X5_find σ1 1 (fun (σ24 : SS) (r24 : Int32) => K σ24 r24)))))) ∧ (r1 = 0 → (K σ1 (-2))))
def lb_X5_read_23 (K : SS → Int32 → Prop) (L23 : SS → Nat → Int32 → Prop) (σ : SS) (y3 : Nat) (x4 : Int32) : Prop :=
  ((gI σ y3 2) ≤ x4 → (K σ x4)) ∧ (¬ (gI σ y3 2) ≤ x4 → ((40 ≤ (gI σ 0 1) → (K σ x4)) ∧ (¬ 40 ≤ (gI σ 0 1) → (vp_in x4 40 ∧ (wp_X5_isDelay σ (gL σ (y3 + 1) x4.toNatClampNeg) (fun (σ48 : SS) (r48 : Int32) => (r48 = 0 → (K σ48 x4)) ∧ (¬ r48 = 0 → (vp_in x4 40 ∧ (wp_X5_addBeat σ48 ((gL σ48 (y3 + 1) x4.toNatClampNeg).toInt32) (fun (σ63 : SS) => L23 σ63 y3 (x4 + 1)))))))))))
def wp_X5_read (σ : SS) (x1 : Int32) (K : SS → Int32 → Prop) : Prop :=
  wp_X5_refusalOfRow σ x1 0 (fun (σ3 : SS) (r3 : Int32) => (r3 = 0 → (vp_in x1 4 ∧ (∃ n, fx3 (lb_X5_read_23 K) n σ3 (56 + 4 * x1.toNatClampNeg) 0))) ∧ (¬ r3 = 0 → (K σ3 r3)))
def lb_X5_followArrivals_37 (K : SS → Prop) (L37 : SS → Int32 → Prop) (σ : SS) (x1 : Int32) : Prop :=
  ((gI σ 0 6) ≤ x1 → (K (sI σ 0 10 1))) ∧ (¬ (gI σ 0 6) ≤ x1 → (vp_in x1 5 ∧ (vp_in x1 5 ∧ (vp_in x1 5 ∧ (wp_X1_keep σ ((26 + 6 * x1.toNatClampNeg) + 1) 5 (gI σ (26 + 6 * x1.toNatClampNeg) 0) (gI σ (26 + 6 * x1.toNatClampNeg) 1) (fun (σ76 : SS) => L37 σ76 (x1 + 1)))))))
def wp_X5_followArrivals (σ : SS) (K : SS → Prop) : Prop :=
  ((gI σ 0 10) = 0 → (wp_X0_follow σ 5 1 (gI σ 0 1) (gI σ 0 2) (gI σ 0 3) (gI σ 0 4) (fun (σ32 : SS) => ∃ n, fx2 (lb_X5_followArrivals_37 K) n σ32 0))) ∧ (¬ (gI σ 0 10) = 0 → (K σ))
def wp_X5_came (σ : SS) (x1 : Int32) (x2 : Int32) (K : SS → Int32 → Prop) : Prop :=
  wp_X5_isWithin σ x1.toInt64 0 ((gI σ 0 1) - 1) (fun (σ9 : SS) (r9 : Int32) => (r9 = 0 → (K σ9 (-2))) ∧ (¬ r9 = 0 → (wp_X5_isWithin σ9 x2.toInt64 0 2 (fun (σ19 : SS) (r19 : Int32) => (¬ r19 = 0 → (wp_X5_followArrivals σ19 (fun (σ29 : SS) => vp_in x1 40 ∧ ((x2 = 0 → ((¬ (gA σ29 (5 + 1) x1.toNatClampNeg) = (-1) → (vp_in x1 40 ∧ (K σ29 (gA σ29 1 x1.toNatClampNeg)))) ∧ ((gA σ29 (5 + 1) x1.toNatClampNeg) = (-1) → (K σ29 (-1))))) ∧ (x2 = 1 → (K σ29 (gA σ29 (5 + 1) x1.toNatClampNeg))) ∧ (¬ x2 = 0 → ¬ x2 = 1 → (vp_in x1 40 ∧ (K σ29 (gA σ29 (5 + 2) x1.toNatClampNeg)))))))) ∧ (r19 = 0 → (K σ19 (-2)))))))
def wp_X5_news (σ : SS) (x1 : Int32) (x2 : Int32) (K : SS → Int32 → Prop) : Prop :=
  wp_X5_followArrivals σ (fun (σ1 : SS) => wp_X5_isWithin σ1 x1.toInt64 0 ((gI σ1 5 7) - 1) (fun (σ16 : SS) (r16 : Int32) => (r16 = 0 → (K σ16 (-2))) ∧ (¬ r16 = 0 → (wp_X5_isWithin σ16 x2.toInt64 0 2 (fun (σ26 : SS) (r26 : Int32) => (¬ r26 = 0 → ((x2 = 0 → (vp_in x1 40 ∧ (K σ26 (gA σ26 (5 + 3) x1.toNatClampNeg)))) ∧ (x2 = 1 → (vp_in x1 40 ∧ (K σ26 (gA σ26 (5 + 4) x1.toNatClampNeg)))) ∧ (¬ x2 = 0 → ¬ x2 = 1 → (wp_X0_gapCountBy σ26 5 x1 (fun (σ89 : SS) (r89 : Int32) => K σ89 r89))))) ∧ (r26 = 0 → (K σ26 (-2))))))))
def wp_X5_asLong (σ : SS) (x0 : Int32) (K : SS → Int64 → Prop) : Prop :=
  K σ ((-9223372036854775808) - x0.toInt64)
def lb_X5_greatestDivisor_7 (K : SS → Int32 → Prop) (L7 : SS → Int32 → Int32 → Int32 → Prop) (σ : SS) (x2 : Int32) (x3 : Int32) (x4 : Int32) : Prop :=
  (64 ≤ x4 → (K σ x2)) ∧ (¬ 64 ≤ x4 → ((x3 = 0 → (K σ x2)) ∧ (¬ x3 = 0 → (¬ x3 = 0 ∧ (L7 σ x3 (x2 - x2 / x3 * x3) (x4 + 1))))))
def wp_X5_greatestDivisor (σ : SS) (x0 : Int32) (x1 : Int32) (K : SS → Int32 → Prop) : Prop :=
  ∃ n, fx4 (lb_X5_greatestDivisor_7 K) n σ x0 x1 0
def bl_X5_inLowestTerms_15 (K : SS → Int64 → Prop) (σ : SS) (x3 : Int32) (k0 : Int32) : Prop :=
  (¬ x3 = 0 → (¬ x3 = 0 ∧ (K σ ((k0 / x3).toInt64)))) ∧ (x3 = 0 → (K σ k0.toInt64))
def wp_X5_inLowestTerms (σ : SS) (x0 : Int32) (x1 : Int32) (x2 : Int32) (K : SS → Int64 → Prop) : Prop :=
  wp_X5_greatestDivisor σ x0 x1 (fun (σ2 : SS) (r2 : Int32) => (¬ x2 = 0 → (bl_X5_inLowestTerms_15 K σ2 r2 x1)) ∧ (x2 = 0 → (bl_X5_inLowestTerms_15 K σ2 r2 x0)))
def wp_X5_expected (σ : SS) (x1 : Int32) (x2 : Int32) (K : SS → Int64 → Prop) : Prop :=
  wp_X5_followArrivals σ (fun (σ1 : SS) => wp_X5_isWithin σ1 x1.toInt64 0 ((gI σ1 5 7) - 1) (fun (σ16 : SS) (r16 : Int32) => (r16 = 0 → (wp_X5_asLong σ16 (-2) (fun (σ34 : SS) (r34 : Int64) => K σ34 r34))) ∧ (¬ r16 = 0 → (wp_X5_isWithin σ16 x2.toInt64 0 1 (fun (σ26 : SS) (r26 : Int32) => (¬ r26 = 0 → (vp_in x1 40 ∧ (vp_in x1 40 ∧ (wp_X5_inLowestTerms σ26 (gA σ26 (5 + 5) x1.toNatClampNeg) (gA σ26 (5 + 6) x1.toNatClampNeg) x2 (fun (σ57 : SS) (r57 : Int64) => K σ57 r57))))) ∧ (r26 = 0 → (wp_X5_asLong σ26 (-2) (fun (σ34 : SS) (r34 : Int64) => K σ34 r34))))))))
def wp_X5_score (σ : SS) (x1 : Int32) (x2 : Int32) (K : SS → Int64 → Prop) : Prop :=
  wp_X5_isWithin σ x1.toInt64 0 6000 (fun (σ6 : SS) (r6 : Int32) => (r6 = 0 → (wp_X5_asLong σ6 (-2) (fun (σ24 : SS) (r24 : Int64) => K σ24 r24))) ∧ (¬ r6 = 0 → (wp_X5_isWithin σ6 x2.toInt64 0 1 (fun (σ16 : SS) (r16 : Int32) => (¬ r16 = 0 → (wp_X5_followArrivals σ16 (fun (σ29 : SS) => wp_X0_latestAt σ29 5 x1 (fun (σ37 : SS) (r37 : Int32) => (r37 = (-1) → (wp_X5_asLong σ37 (-3) (fun (σ59 : SS) (r59 : Int64) => K σ59 r59))) ∧ (¬ r37 = (-1) → (wp_X0_gapCountBy σ37 5 r37 (fun (σ51 : SS) (r51 : Int32) => (¬ r51 = 0 → (vp_in r37 40 ∧ (wp_X0_countGapsBelow σ51 5 r37 (x1 - (gA σ51 (5 + 4) r37.toNatClampNeg)) (fun (σ79 : SS) (r79 : Int32) => wp_X0_gapCountBy σ79 5 r37 (fun (σ91 : SS) (r91 : Int32) => wp_X5_inLowestTerms σ91 r79 r91 x2 (fun (σ95 : SS) (r95 : Int64) => K σ95 r95)))))) ∧ (r51 = 0 → (wp_X5_asLong σ51 (-3) (fun (σ59 : SS) (r59 : Int64) => K σ59 r59)))))))))) ∧ (r16 = 0 → (wp_X5_asLong σ16 (-2) (fun (σ24 : SS) (r24 : Int64) => K σ24 r24)))))))
def wp_X5_isMeasure (σ : SS) (x0 : Int32) (x1 : Int32) (K : SS → Int32 → Prop) : Prop :=
  vp_in x0 4 ∧ (vp_in x0 4 ∧ (wp_X5_isWithin σ x1.toInt64 (lmA x0.toNatClampNeg) (gmA x0.toNatClampNeg) (fun (σ12 : SS) (r12 : Int32) => (r12 = 0 ∨ r12 = 1) ∧ K σ12 r12)))
def wp_X5_watcher (σ : SS) (x1 : Int32) (x2 : Int32) (K : SS → Int32 → Prop) : Prop :=
  wp_X5_isWithin σ x1.toInt64 0 3 (fun (σ4 : SS) (r4 : Int32) => (r4 = 0 → (K σ4 (-2))) ∧ (¬ r4 = 0 → (wp_X5_isMeasure σ4 x1 x2 (fun (σ12 : SS) (r12 : Int32) => (¬ r12 = 0 → (((gI σ12 0 6) < 5 → (vp_in (gI σ12 0 6) 5 ∧ (wp_X4_begin σ12 (26 + 6 * (gI σ12 0 6).toNatClampNeg) x1 x2 (fun (σ43 : SS) => wp_X5_forgetWhatFollowed (sI σ43 0 6 ((gI σ43 0 6) + 1)) (fun (σ57 : SS) => K σ57 ((gI σ57 0 6) - 1)))))) ∧ (¬ (gI σ12 0 6) < 5 → (K σ12 (-4))))) ∧ (r12 = 0 → (K σ12 (-2)))))))
def wp_X5_leaves (σ : SS) (K : SS → Int32 → Prop) : Prop :=
  (¬ (gI σ 0 6) = 0 → (wp_X5_forgetWhatFollowed (sI σ 0 6 ((gI σ 0 6) - 1)) (fun (σ21 : SS) => K σ21 (gI σ21 0 6)))) ∧ ((gI σ 0 6) = 0 → (K σ (-3)))
def wp_X5_isWatcher (σ : SS) (x1 : Int32) (K : SS → Int32 → Prop) : Prop :=
  wp_X5_isWithin σ x1.toInt64 0 ((gI σ 0 6) - 1) (fun (σ9 : SS) (r9 : Int32) => (r9 = 0 ∨ r9 = 1) ∧ K σ9 r9)
def wp_X5_measure (σ : SS) (x1 : Int32) (x2 : Int32) (K : SS → Int32 → Prop) : Prop :=
  wp_X5_isWatcher σ x1 (fun (σ2 : SS) (r2 : Int32) => (r2 = 0 → (K σ2 (-2))) ∧ (¬ r2 = 0 → (vp_in x1 5 ∧ (wp_X5_isMeasure σ2 (gI σ2 (26 + 6 * x1.toNatClampNeg) 0) x2 (fun (σ18 : SS) (r18 : Int32) => (¬ r18 = 0 → (vp_in x1 5 ∧ (vp_in x1 5 ∧ (wp_X5_forgetWhatFollowed (sI σ18 (26 + 6 * x1.toNatClampNeg) 1 x2) (fun (σ48 : SS) => K σ48 (gI σ18 (26 + 6 * x1.toNatClampNeg) 1)))))) ∧ (r18 = 0 → (K σ18 (-2))))))))
def bl_X5_wish_51 (K : SS → Int32 → Prop) (σ : SS) (x1 : Int32) (x2 : Int32) (x3 : Int32) : Prop :=
  wp_X5_forgetWhatFollowed σ (fun (σ52 : SS) => vp_in x1 5 ∧ ((¬ x2 = 0 → (K (sI σ52 (26 + 6 * x1.toNatClampNeg) 3 x3) (gI σ52 (26 + 6 * x1.toNatClampNeg) 3))) ∧ (x2 = 0 → (K (sI σ52 (26 + 6 * x1.toNatClampNeg) 2 x3) (gI σ52 (26 + 6 * x1.toNatClampNeg) 2)))))
def bl_X5_wish_12 (K : SS → Int32 → Prop) (σ : SS) (x1 : Int32) (x2 : Int32) (x3 : Int32) (k0 : Int32) : Prop :=
  wp_X5_isWatcher σ x1 (fun (σ16 : SS) (r16 : Int32) => (r16 = 0 → (K σ16 (-2))) ∧ (¬ r16 = 0 → (wp_X5_isWithin σ16 x2.toInt64 0 1 (fun (σ26 : SS) (r26 : Int32) => (r26 = 0 → (K σ26 (-2))) ∧ (¬ r26 = 0 → (wp_X5_isWithin σ26 x3.toInt64 0 k0 (fun (σ37 : SS) (r37 : Int32) => (¬ r37 = 0 → (bl_X5_wish_51 K σ37 x1 x2 x3)) ∧ (r37 = 0 → ((x3 = (-1) → (bl_X5_wish_51 K σ37 x1 x2 x3)) ∧ (¬ x3 = (-1) → (K σ37 (-2))))))))))))
def wp_X5_wish (σ : SS) (x1 : Int32) (x2 : Int32) (x3 : Int32) (K : SS → Int32 → Prop) : Prop :=
  (¬ x2 = 0 → (bl_X5_wish_12 K σ x1 x2 x3 40)) ∧ (x2 = 0 → (bl_X5_wish_12 K σ x1 x2 x3 500))
def wp_X5_info (σ : SS) (x1 : Int32) (x2 : Int32) (K : SS → Int32 → Prop) : Prop :=
  wp_X5_isWatcher σ x1 (fun (σ2 : SS) (r2 : Int32) => (r2 = 0 → (K σ2 (-2))) ∧ (¬ r2 = 0 → (wp_X5_isWithin σ2 x2.toInt64 0 9 (fun (σ13 : SS) (r13 : Int32) => (¬ r13 = 0 → (wp_X5_followArrivals σ13 (fun (σ23 : SS) => vp_in x1 5 ∧ ((x2 = 0 → (K σ23 (gI σ23 (26 + 6 * x1.toNatClampNeg) 0))) ∧ (x2 = 1 → (K σ23 (gI σ23 (26 + 6 * x1.toNatClampNeg) 1))) ∧ (x2 = 2 → (K σ23 (gI σ23 (26 + 6 * x1.toNatClampNeg) 2))) ∧ (x2 = 3 → (K σ23 (gI σ23 (26 + 6 * x1.toNatClampNeg) 3))) ∧ (x2 = 4 → (K σ23 (gI σ23 ((26 + 6 * x1.toNatClampNeg) + 1) 3))) ∧ (x2 = 5 → (K σ23 (gI σ23 ((26 + 6 * x1.toNatClampNeg) + 1) 4))) ∧ (x2 = 6 → (K σ23 (gI σ23 ((26 + 6 * x1.toNatClampNeg) + 1) 5))) ∧ (x2 = 7 → (K σ23 (gI σ23 ((26 + 6 * x1.toNatClampNeg) + 1) 6))) ∧ (x2 = 8 → (wp_X4_keepsWishes σ23 (26 + 6 * x1.toNatClampNeg) ((26 + 6 * x1.toNatClampNeg) + 1) (fun (σ139 : SS) (r139 : Int32) => (r139 = 0 → (K σ139 0)) ∧ (¬ r139 = 0 → (K σ139 1))))) ∧ (¬ x2 = 0 → ¬ x2 = 1 → ¬ x2 = 2 → ¬ x2 = 3 → ¬ x2 = 4 → ¬ x2 = 5 → ¬ x2 = 6 → ¬ x2 = 7 → ¬ x2 = 8 → (K σ23 (gI σ23 ((26 + 6 * x1.toNatClampNeg) + 1) 7))))))) ∧ (r13 = 0 → (K σ13 (-2)))))))
def wp_X5_ledger (σ : SS) (x1 : Int32) (x2 : Int32) (x3 : Int32) (K : SS → Int32 → Prop) : Prop :=
  wp_X5_isWatcher σ x1 (fun (σ2 : SS) (r2 : Int32) => (r2 = 0 → (K σ2 (-2))) ∧ (¬ r2 = 0 → (wp_X5_isWithin σ2 x3.toInt64 0 2 (fun (σ12 : SS) (r12 : Int32) => (¬ r12 = 0 → (wp_X5_followArrivals σ12 (fun (σ22 : SS) => vp_in x1 5 ∧ (wp_X5_isWithin σ22 x2.toInt64 0 ((gI σ22 ((26 + 6 * x1.toNatClampNeg) + 1) 3) - 1) (fun (σ46 : SS) (r46 : Int32) => (¬ r46 = 0 → (vp_in x2 40 ∧ ((x3 = 0 → (vp_in (gA σ46 (((26 + 6 * x1.toNatClampNeg) + 1) + 2) x2.toNatClampNeg) 40 ∧ (K σ46 (gA σ46 (((26 + 6 * x1.toNatClampNeg) + 1) + 1) (gA σ46 (((26 + 6 * x1.toNatClampNeg) + 1) + 2) x2.toNatClampNeg).toNatClampNeg)))) ∧ (x3 = 1 → (vp_in ((gA σ46 (((26 + 6 * x1.toNatClampNeg) + 1) + 2) x2.toNatClampNeg) + 1) 40 ∧ (K σ46 (gA σ46 (5 + 4) ((gA σ46 (((26 + 6 * x1.toNatClampNeg) + 1) + 2) x2.toNatClampNeg) + 1).toNatClampNeg)))) ∧ (¬ x3 = 0 → ¬ x3 = 1 → (K σ46 (gA σ46 (((26 + 6 * x1.toNatClampNeg) + 1) + 2) x2.toNatClampNeg)))))) ∧ (r46 = 0 → (K σ46 (-2)))))))) ∧ (r12 = 0 → (K σ12 (-2)))))))
def wp_X5_limit (σ : SS) (x1 : Int32) (x2 : Int32) (K : SS → Int32 → Prop) : Prop :=
  wp_X5_followArrivals σ (fun (σ1 : SS) => wp_X5_isWatcher σ1 x1 (fun (σ6 : SS) (r6 : Int32) => (r6 = 0 → (K σ6 (-2))) ∧ (¬ r6 = 0 → (wp_X5_isWithin σ6 x2.toInt64 0 ((gI σ6 5 7) - 1) (fun (σ24 : SS) (r24 : Int32) => (¬ r24 = 0 → (vp_in x1 5 ∧ (vp_in x2 40 ∧ (K σ24 (gA σ24 (((26 + 6 * x1.toNatClampNeg) + 1) + 1) x2.toNatClampNeg))))) ∧ (r24 = 0 → (K σ24 (-2))))))))
def lb_X5_doubts_40 (K : SS → Int32 → Prop) (L40 : SS → Int32 → Int32 → Int32 → Int32 → Prop) (σ : SS) (x1 : Int32) (x2 : Int32) (x3 : Int32) (x4 : Int32) : Prop :=
  ((gI σ 0 6) ≤ x4 → (K σ x3)) ∧ (¬ (gI σ 0 6) ≤ x4 → (vp_in x4 5 ∧ (vp_in x2 40 ∧ (((gA σ (((26 + 6 * x4.toNatClampNeg) + 1) + 1) x2.toNatClampNeg) = (-1) → (L40 σ x1 x2 x3 (x4 + 1))) ∧ (¬ (gA σ (((26 + 6 * x4.toNatClampNeg) + 1) + 1) x2.toNatClampNeg) = (-1) → ((x1 < (gA σ (((26 + 6 * x4.toNatClampNeg) + 1) + 1) x2.toNatClampNeg) → (L40 σ x1 x2 x3 (x4 + 1))) ∧ (¬ x1 < (gA σ (((26 + 6 * x4.toNatClampNeg) + 1) + 1) x2.toNatClampNeg) → (L40 σ x1 x2 (x3 ||| ((1 : Int32) <<< (x4 &&& 31))) (x4 + 1)))))))))
def wp_X5_doubts (σ : SS) (x1 : Int32) (K : SS → Int32 → Prop) : Prop :=
  wp_X5_isWithin σ x1.toInt64 0 6000 (fun (σ6 : SS) (r6 : Int32) => (¬ r6 = 0 → (wp_X5_followArrivals σ6 (fun (σ16 : SS) => wp_X0_latestAt σ16 5 x1 (fun (σ24 : SS) (r24 : Int32) => (¬ r24 = (-1) → (∃ n, fx5 (lb_X5_doubts_40 K) n σ24 x1 r24 0 0)) ∧ (r24 = (-1) → (K σ24 0)))))) ∧ (r6 = 0 → (K σ6 (-2))))
def wp_X5_noticed (σ : SS) (x1 : Int32) (K : SS → Int32 → Prop) : Prop :=
  wp_X5_isWatcher σ x1 (fun (σ2 : SS) (r2 : Int32) => (¬ r2 = 0 → (wp_X5_followArrivals σ2 (fun (σ12 : SS) => vp_in x1 5 ∧ (((gI σ12 0 4) = (-1) → (K σ12 (-1))) ∧ (¬ (gI σ12 0 4) = (-1) → ((¬ (gI σ12 ((26 + 6 * x1.toNatClampNeg) + 1) 7) = (-1) → (K σ12 (if ((gI σ12 ((26 + 6 * x1.toNatClampNeg) + 1) 7) - (gI σ12 0 4)) < 0 then 0 else ((gI σ12 ((26 + 6 * x1.toNatClampNeg) + 1) 7) - (gI σ12 0 4))))) ∧ ((gI σ12 ((26 + 6 * x1.toNatClampNeg) + 1) 7) = (-1) → (K σ12 (-1))))))))) ∧ (r2 = 0 → (K σ2 (-2))))
def lb_X5_least_34 (K : SS → Int32 → Prop) (L34 : SS → Int32 → Int32 → Int32 → Prop) (σ : SS) (x1 : Int32) (x2 : Int32) (x3 : Int32) : Prop :=
  vp_in x1 4 ∧ (((gmA x1.toNatClampNeg) < x3 → (K σ (-1))) ∧ (¬ (gmA x1.toNatClampNeg) < x3 → (wp_X1_keep σ 21 5 x1 x3 (fun (σ53 : SS) => (x2 < (gI σ53 21 3) → (L34 σ53 x1 x2 (x3 + 1))) ∧ (¬ x2 < (gI σ53 21 3) → (K σ53 x3))))))
def wp_X5_least (σ : SS) (x1 : Int32) (x2 : Int32) (K : SS → Int32 → Prop) : Prop :=
  wp_X5_isWithin σ x1.toInt64 0 2 (fun (σ4 : SS) (r4 : Int32) => (r4 = 0 → (K σ4 (-2))) ∧ (¬ r4 = 0 → (wp_X5_isWithin σ4 x2.toInt64 0 40 (fun (σ15 : SS) (r15 : Int32) => (¬ r15 = 0 → (wp_X5_followArrivals σ15 (fun (σ25 : SS) => vp_in x1 4 ∧ (∃ n, fx4 (lb_X5_least_34 K) n σ25 x1 x2 (lmA x1.toNatClampNeg))))) ∧ (r15 = 0 → (K σ15 (-2)))))))
def lb_X5_longestKeptBy_3 (K : SS → Int32 → Prop) (L3 : SS → Int32 → Int32 → Prop) (σ : SS) (x1 : Int32) (x2 : Int32) : Prop :=
  (x2 < 1 → (K σ (-1))) ∧ (¬ x2 < 1 → (vp_in x2 51 ∧ ((¬ ((gA σ 4 x2.toNatClampNeg) &&& x1) = x1 → (L3 σ x1 (x2 + (-1)))) ∧ (((gA σ 4 x2.toNatClampNeg) &&& x1) = x1 → (K σ x2)))))
def wp_X5_longestKeptBy (σ : SS) (x1 : Int32) (K : SS → Int32 → Prop) : Prop :=
  ∃ n, fx3 (lb_X5_longestKeptBy_3 K) n σ x1 50
def lb_X5_weighPeriods_49 (K : SS → Prop) (L10 : SS → Int32 → Prop) (L49 : SS → Int32 → Int32 → Prop) (σ : SS) (x1 : Int32) (x2 : Int32) : Prop :=
  ((gI σ 0 6) ≤ x2 → (L10 σ (x1 + 1))) ∧ (¬ (gI σ 0 6) ≤ x2 → (vp_in x2 5 ∧ (wp_X1_keep σ 21 13 (gI σ (26 + 6 * x2.toNatClampNeg) 0) (gI σ (26 + 6 * x2.toNatClampNeg) 1) (fun (σ80 : SS) => wp_X4_keepsWishes σ80 (26 + 6 * x2.toNatClampNeg) 21 (fun (σ88 : SS) (r88 : Int32) => (r88 = 0 → (L49 σ88 x1 (x2 + 1))) ∧ (¬ r88 = 0 → (vp_in x1 51 ∧ (vp_in x1 51 ∧ (L49 (sA σ88 4 x1.toNatClampNeg ((gA σ88 4 x1.toNatClampNeg) ||| ((1 : Int32) <<< (x2 &&& 31)))) x1 (x2 + 1))))))))))
def lb_X5_weighPeriods_10 (K : SS → Prop) (L10 : SS → Int32 → Prop) (σ : SS) (x1 : Int32) : Prop :=
  (50 < x1 → (K (sI σ 0 12 1))) ∧ (¬ 50 < x1 → (wp_X0_follow σ 13 1 (gI σ 0 1) x1 (gI σ 0 3) (gI σ 0 4) (fun (σ37 : SS) => vp_in x1 51 ∧ (∃ n, fx3 (lb_X5_weighPeriods_49 K L10) n (sA σ37 4 x1.toNatClampNeg 0) x1 0))))
def wp_X5_weighPeriods (σ : SS) (K : SS → Prop) : Prop :=
  ((gI σ 0 12) = 0 → (∃ n, fx2 (lb_X5_weighPeriods_10 K) n σ 1)) ∧ (¬ (gI σ 0 12) = 0 → (K σ))
def wp_X5_longest (σ : SS) (x1 : Int32) (K : SS → Int32 → Prop) : Prop :=
  wp_X5_isWatcher σ x1 (fun (σ2 : SS) (r2 : Int32) => (¬ r2 = 0 → (wp_X5_weighPeriods σ2 (fun (σ12 : SS) => wp_X5_longestKeptBy σ12 ((1 : Int32) <<< (x1 &&& 31)) (fun (σ19 : SS) (r19 : Int32) => K σ19 r19)))) ∧ (r2 = 0 → (K σ2 (-2))))
def wp_X5_shared (σ : SS) (K : SS → Int32 → Prop) : Prop :=
  wp_X5_weighPeriods σ (fun (σ1 : SS) => wp_X5_longestKeptBy σ1 (((1 : Int32) <<< ((gI σ1 0 6) &&& 31)) - 1) (fun (σ13 : SS) (r13 : Int32) => K σ13 r13))
def wp_X5_sentWith (σ : SS) (x0 : Int32) (K : SS → Int32 → Prop) : Prop :=
  (1 ≤ x0 → (¬ x0 = 0 ∧ (K σ ((1000 / x0) + 1)))) ∧ (¬ 1 ≤ x0 → (K σ 0))
def lb_X5_saved_24 (K : SS → Int32 → Prop) (L24 : SS → Int32 → Int32 → Int32 → Prop) (σ : SS) (x1 : Int32) (x2 : Int32) (x3 : Int32) : Prop :=
  ((gI σ 0 6) ≤ x3 → (wp_X5_sentWith σ x1 (fun (σ51 : SS) (r51 : Int32) => K σ51 (x2 - r51)))) ∧ (¬ (gI σ 0 6) ≤ x3 → (wp_X5_longest σ x3 (fun (σ35 : SS) (r35 : Int32) => wp_X5_sentWith σ35 r35 (fun (σ38 : SS) (r38 : Int32) => L24 σ38 x1 (x2 + r38) (x3 + 1)))))
def wp_X5_saved (σ : SS) (K : SS → Int32 → Prop) : Prop :=
  wp_X5_shared σ (fun (σ1 : SS) (r1 : Int32) => (r1 = (-1) → (K σ1 (-2147483648))) ∧ (¬ r1 = (-1) → ((¬ (gI σ1 0 6) = 0 → (∃ n, fx4 (lb_X5_saved_24 K) n σ1 r1 0 0)) ∧ ((gI σ1 0 6) = 0 → (K σ1 (-2147483648))))))
def wp_X5_sheet (σ : SS) (x1 : Int32) (x2 : Int32) (x3 : Int32) (K : SS → Int32 → Prop) : Prop :=
  wp_X5_isSheet σ x1 (fun (σ1 : SS) (r1 : Int32) => (r1 = 0 → (K σ1 (-2))) ∧ (¬ r1 = 0 → (wp_X5_isWithin σ1 x2.toInt64 0 1 (fun (σ11 : SS) (r11 : Int32) => (r11 = 0 → (K σ11 (-2))) ∧ (¬ r11 = 0 → ((x3 ≤ 40 → ((0 ≤ x3 → (vp_in x1 4 ∧ (wp_X3_begin σ11 (56 + 4 * x1.toNatClampNeg) x2 x3 (fun (σ44 : SS) => K σ44 x3)))) ∧ (¬ 0 ≤ x3 → (wp_X5_find σ11 5 (fun (σ32 : SS) (r32 : Int32) => K σ32 r32))))) ∧ (¬ x3 ≤ 40 → (K σ11 (-2)))))))))
def wp_X5_lose (σ : SS) (x1 : Int32) (K : SS → Int32 → Prop) : Prop :=
  wp_X5_isSheet σ x1 (fun (σ1 : SS) (r1 : Int32) => (¬ r1 = 0 → (vp_in x1 4 ∧ (((gI σ1 (56 + 4 * x1.toNatClampNeg) 0) = 0 → (vp_in x1 4 ∧ (vp_in x1 4 ∧ (K (sI σ1 (56 + 4 * x1.toNatClampNeg) 0 1) (gI (sI σ1 (56 + 4 * x1.toNatClampNeg) 0 1) (56 + 4 * x1.toNatClampNeg) 2))))) ∧ (¬ (gI σ1 (56 + 4 * x1.toNatClampNeg) 0) = 0 → (wp_X5_find σ1 1 (fun (σ24 : SS) (r24 : Int32) => K σ24 r24)))))) ∧ (r1 = 0 → (K σ1 (-2))))
def wp_X5_put (σ : SS) (x1 : Int32) (x2 : Int32) (x3 : Int32) (x4 : Int32) (K : SS → Int32 → Prop) : Prop :=
  wp_X5_isWithin σ x2.toInt64 0 1 (fun (σ4 : SS) (r4 : Int32) => (¬ r4 = 0 → (wp_X5_refusalOfRow σ4 x1 x2 (fun (σ16 : SS) (r16 : Int32) => (r16 = 0 → (vp_in x1 4 ∧ (wp_X3_hasItems σ16 (56 + 4 * x1.toNatClampNeg) x3 1 (fun (σ37 : SS) (r37 : Int32) => (¬ r37 = 0 → ((¬ x2 = 0 → (vp_in x1 4 ∧ (vf_n64 (FP.ddiv (FP.i2d x4) 4620693217682128896) ∧ (wp_X3_putNumber σ37 (56 + 4 * x1.toNatClampNeg) x3 (FP.ddiv (FP.i2d x4) 4620693217682128896) (fun (σ84 : SS) => K σ84 1))))) ∧ (x2 = 0 → (vp_in x1 4 ∧ (vp_in x3 40 ∧ (K (sL σ37 ((56 + 4 * x1.toNatClampNeg) + 1) x3.toNatClampNeg x4.toInt64) 1)))))) ∧ (r37 = 0 → (wp_X5_find σ37 2 (fun (σ45 : SS) (r45 : Int32) => K σ45 r45))))))) ∧ (¬ r16 = 0 → (K σ16 r16))))) ∧ (r4 = 0 → (K σ4 (-2))))
def wp_X5_get (σ : SS) (x1 : Int32) (x2 : Int32) (K : SS → Int64 → Prop) : Prop :=
  wp_X5_isSheet σ x1 (fun (σ1 : SS) (r1 : Int32) => (¬ r1 = 0 → (vp_in x1 4 ∧ (((gI σ1 (56 + 4 * x1.toNatClampNeg) 0) = 0 → (wp_X3_hasItems σ1 (56 + 4 * x1.toNatClampNeg) x2 1 (fun (σ39 : SS) (r39 : Int32) => (¬ r39 = 0 → ((¬ (gI σ39 (56 + 4 * x1.toNatClampNeg) 1) = 0 → (vp_in x2 40 ∧ (((gA σ39 ((56 + 4 * x1.toNatClampNeg) + 3) x2.toNatClampNeg) = 0 → (vp_in x2 40 ∧ (vf_n64 (FP.dmul 4620693217682128896 (gD σ39 ((56 + 4 * x1.toNatClampNeg) + 2) x2.toNatClampNeg)) ∧ (K σ39 (FP.d2l (FP.dmul 4620693217682128896 (gD σ39 ((56 + 4 * x1.toNatClampNeg) + 2) x2.toNatClampNeg))))))) ∧ (¬ (gA σ39 ((56 + 4 * x1.toNatClampNeg) + 3) x2.toNatClampNeg) = 0 → (wp_X5_asLong σ39 (-1) (fun (σ78 : SS) (r78 : Int64) => K σ78 r78)))))) ∧ ((gI σ39 (56 + 4 * x1.toNatClampNeg) 1) = 0 → (vp_in x2 40 ∧ (K σ39 (gL σ39 ((56 + 4 * x1.toNatClampNeg) + 1) x2.toNatClampNeg)))))) ∧ (r39 = 0 → (wp_X5_find σ39 2 (fun (σ47 : SS) (r47 : Int32) => wp_X5_asLong σ47 r47 (fun (σ50 : SS) (r50 : Int64) => K σ50 r50))))))) ∧ (¬ (gI σ1 (56 + 4 * x1.toNatClampNeg) 0) = 0 → (wp_X5_find σ1 1 (fun (σ29 : SS) (r29 : Int32) => wp_X5_asLong σ29 r29 (fun (σ32 : SS) (r32 : Int64) => K σ32 r32))))))) ∧ (r1 = 0 → (wp_X5_asLong σ1 (-2) (fun (σ9 : SS) (r9 : Int64) => K σ9 r9))))
def wp_X5_copy (σ : SS) (x1 : Int32) (x2 : Int32) (x3 : Int32) (x4 : Int32) (x5 : Int32) (K : SS → Int32 → Prop) : Prop :=
  wp_X5_isSheet σ x1 (fun (σ1 : SS) (r1 : Int32) => (r1 = 0 → (K σ1 (-2))) ∧ (¬ r1 = 0 → (wp_X5_isSheet σ1 x3 (fun (σ8 : SS) (r8 : Int32) => (¬ r8 = 0 → (vp_in x1 4 ∧ (vp_in x3 4 ∧ ((¬ (gI σ8 (56 + 4 * x1.toNatClampNeg) 0) = 0 → (wp_X5_find σ8 1 (fun (σ51 : SS) (r51 : Int32) => K σ51 r51))) ∧ ((gI σ8 (56 + 4 * x1.toNatClampNeg) 0) = 0 → (((gI σ8 (56 + 4 * x3.toNatClampNeg) 0) = 0 → (((gI σ8 (56 + 4 * x1.toNatClampNeg) 1) = (gI σ8 (56 + 4 * x3.toNatClampNeg) 1) → (wp_X3_hasItems σ8 (56 + 4 * x1.toNatClampNeg) x2 x5 (fun (σ79 : SS) (r79 : Int32) => (r79 = 0 → (wp_X5_find σ79 2 (fun (σ99 : SS) (r99 : Int32) => K σ99 r99))) ∧ (¬ r79 = 0 → (wp_X3_hasItems σ79 (56 + 4 * x3.toNatClampNeg) x4 x5 (fun (σ91 : SS) (r91 : Int32) => (¬ r91 = 0 → (wp_X3_takeItems σ91 (56 + 4 * x3.toNatClampNeg) (56 + 4 * x1.toNatClampNeg) x2 x4 x5 (fun (σ112 : SS) => K σ112 1))) ∧ (r91 = 0 → (wp_X5_find σ91 2 (fun (σ99 : SS) (r99 : Int32) => K σ99 r99))))))))) ∧ (¬ (gI σ8 (56 + 4 * x1.toNatClampNeg) 1) = (gI σ8 (56 + 4 * x3.toNatClampNeg) 1) → (wp_X5_find σ8 4 (fun (σ70 : SS) (r70 : Int32) => K σ70 r70))))) ∧ (¬ (gI σ8 (56 + 4 * x3.toNatClampNeg) 0) = 0 → (wp_X5_find σ8 1 (fun (σ51 : SS) (r51 : Int32) => K σ51 r51))))))))) ∧ (r8 = 0 → (K σ8 (-2)))))))
def lb_X5_write_30 (K : SS → Int32 → Prop) (L30 : SS → Nat → Int32 → Int32 → Prop) (σ : SS) (y3 : Nat) (x4 : Int32) (x5 : Int32) : Prop :=
  ((if (gI σ 0 1) < (gI σ y3 2) then (gI σ 0 1) else (gI σ y3 2)) ≤ x5 → (K σ x4)) ∧ (¬ (if (gI σ 0 1) < (gI σ y3 2) then (gI σ 0 1) else (gI σ y3 2)) ≤ x5 → (vp_in x5 40 ∧ (((gA σ (5 + 2) x5.toNatClampNeg) < 1 → (vp_in x5 40 ∧ (L30 (sA σ (y3 + 3) x5.toNatClampNeg (vp_nar .boolean 1)) y3 x4 (x5 + 1)))) ∧ (¬ (gA σ (5 + 2) x5.toNatClampNeg) < 1 → (wp_X0_offOf σ 5 (gA σ (5 + 2) x5.toNatClampNeg) (fun (σ73 : SS) (r73 : UInt64) => wp_X3_putNumber σ73 y3 x5 r73 (fun (σ76 : SS) => L30 σ76 y3 (x4 + 1) (x5 + 1))))))))
def wp_X5_write (σ : SS) (x1 : Int32) (K : SS → Int32 → Prop) : Prop :=
  wp_X5_refusalOfRow σ x1 1 (fun (σ3 : SS) (r3 : Int32) => (r3 = 0 → (wp_X5_followArrivals σ3 (fun (σ14 : SS) => vp_in x1 4 ∧ (∃ n, fx4 (lb_X5_write_30 K) n σ14 (56 + 4 * x1.toNatClampNeg) 0 0)))) ∧ (¬ r3 = 0 → (K σ3 r3)))
def wp_X5_found (σ : SS) (x1 : Int32) (x2 : Int32) (x3 : Int32) (K : SS → Int32 → Prop) : Prop :=
  wp_X5_isWithin σ x2.toInt64 0 2 (fun (σ4 : SS) (r4 : Int32) => (¬ r4 = 0 → (wp_X5_refusalOfRow σ4 x1 1 (fun (σ16 : SS) (r16 : Int32) => (r16 = 0 → ((x2 = 0 → (vp_in x1 4 ∧ (wp_X3_countNoNumbers σ16 (56 + 4 * x1.toNatClampNeg) (fun (σ62 : SS) (r62 : Int32) => K σ62 r62)))) ∧ (x2 = 1 → (vp_in x1 4 ∧ (vf_n64 (FP.ddiv (FP.i2d x3) 4620693217682128896) ∧ (wp_X3_countAbove σ16 (56 + 4 * x1.toNatClampNeg) (FP.ddiv (FP.i2d x3) 4620693217682128896) (fun (σ78 : SS) (r78 : Int32) => K σ78 r78))))) ∧ (¬ x2 = 0 → ¬ x2 = 1 → (vp_in x1 4 ∧ (vf_n64 (FP.ddiv (FP.i2d x3) 4620693217682128896) ∧ (wp_X3_countBelow σ16 (56 + 4 * x1.toNatClampNeg) (FP.ddiv (FP.i2d x3) 4620693217682128896) (fun (σ94 : SS) (r94 : Int32) => K σ94 r94))))))) ∧ (¬ r16 = 0 → (K σ16 r16))))) ∧ (r4 = 0 → (K σ4 (-2))))
def lb_X5_countDoubtsForGood_4 (K : SS → Int32 → Prop) (L4 : SS → Int32 → Int32 → Prop) (σ : SS) (x1 : Int32) (x2 : Int32) : Prop :=
  ((gI σ 0 6) ≤ x2 → (K σ x1)) ∧ (¬ (gI σ 0 6) ≤ x2 → (vp_in x2 5 ∧ (((gI σ ((26 + 6 * x2.toNatClampNeg) + 1) 7) = (-1) → (L4 σ x1 (x2 + 1))) ∧ (¬ (gI σ ((26 + 6 * x2.toNatClampNeg) + 1) 7) = (-1) → (L4 σ (x1 + 1) (x2 + 1))))))
def wp_X5_countDoubtsForGood (σ : SS) (K : SS → Int32 → Prop) : Prop :=
  ∃ n, fx3 (lb_X5_countDoubtsForGood_4 K) n σ 0 0
def lb_X5_countLost_4 (K : SS → Int32 → Prop) (L4 : SS → Int32 → Int32 → Prop) (σ : SS) (x1 : Int32) (x2 : Int32) : Prop :=
  ((gI σ 0 1) ≤ x2 → (K σ x1)) ∧ (¬ (gI σ 0 1) ≤ x2 → (vp_in x2 40 ∧ ((¬ (gA σ (5 + 1) x2.toNatClampNeg) = (-1) → (L4 σ x1 (x2 + 1))) ∧ ((gA σ (5 + 1) x2.toNatClampNeg) = (-1) → (L4 σ (x1 + 1) (x2 + 1))))))
def wp_X5_countLost (σ : SS) (K : SS → Int32 → Prop) : Prop :=
  ∃ n, fx3 (lb_X5_countLost_4 K) n σ 0 0
def lb_X5_countMistakes_4 (K : SS → Int32 → Prop) (L4 : SS → Int32 → Int32 → Prop) (σ : SS) (x1 : Int32) (x2 : Int32) : Prop :=
  ((gI σ 0 6) ≤ x2 → (K σ x1)) ∧ (¬ (gI σ 0 6) ≤ x2 → (vp_in x2 5 ∧ (L4 σ (x1 + (gI σ ((26 + 6 * x2.toNatClampNeg) + 1) 3)) (x2 + 1))))
def wp_X5_countMistakes (σ : SS) (K : SS → Int32 → Prop) : Prop :=
  ∃ n, fx3 (lb_X5_countMistakes_4 K) n σ 0 0
def lb_X5_whoKeepsWishes_4 (K : SS → Int32 → Prop) (L4 : SS → Int32 → Int32 → Prop) (σ : SS) (x1 : Int32) (x2 : Int32) : Prop :=
  ((gI σ 0 6) ≤ x2 → (K σ x1)) ∧ (¬ (gI σ 0 6) ≤ x2 → (vp_in x2 5 ∧ (vp_in x2 5 ∧ (wp_X4_keepsWishes σ (26 + 6 * x2.toNatClampNeg) ((26 + 6 * x2.toNatClampNeg) + 1) (fun (σ27 : SS) (r27 : Int32) => (r27 = 0 → (L4 σ27 x1 (x2 + 1))) ∧ (¬ r27 = 0 → (L4 σ27 (x1 ||| ((1 : Int32) <<< (x2 &&& 31))) (x2 + 1))))))))
def wp_X5_whoKeepsWishes (σ : SS) (K : SS → Int32 → Prop) : Prop :=
  ∃ n, fx3 (lb_X5_whoKeepsWishes_4 K) n σ 0 0
def wp_X5_count (σ : SS) (x1 : Int32) (K : SS → Int32 → Prop) : Prop :=
  wp_X5_followArrivals σ (fun (σ1 : SS) => (x1 = 0 → (K σ1 (gI σ1 0 1))) ∧ (x1 = 1 → (wp_X5_countLost σ1 (fun (σ62 : SS) (r62 : Int32) => K σ62 r62))) ∧ (x1 = 2 → (K σ1 (gI σ1 5 7))) ∧ (x1 = 3 → (K σ1 (gI σ1 0 6))) ∧ (x1 = 4 → (wp_X5_countMistakes σ1 (fun (σ80 : SS) (r80 : Int32) => K σ80 r80))) ∧ (x1 = 5 → (wp_X5_whoKeepsWishes σ1 (fun (σ85 : SS) (r85 : Int32) => K σ85 r85))) ∧ (x1 = 6 → ((¬ (gI σ1 5 7) = 0 → (vp_in ((gI σ1 5 7) - 1) 40 ∧ (K σ1 (gA σ1 (5 + 4) ((gI σ1 5 7) - 1).toNatClampNeg)))) ∧ ((gI σ1 5 7) = 0 → (K σ1 (-1))))) ∧ (x1 = 7 → (wp_X5_countDoubtsForGood σ1 (fun (σ122 : SS) (r122 : Int32) => K σ122 r122))) ∧ (x1 = 8 → (K σ1 (gI σ1 0 8))) ∧ (¬ x1 = 0 → ¬ x1 = 1 → ¬ x1 = 2 → ¬ x1 = 3 → ¬ x1 = 4 → ¬ x1 = 5 → ¬ x1 = 6 → ¬ x1 = 7 → ¬ x1 = 8 → (K σ1 (-2))))
def wp_X5_mix (σ : SS) (x0 : Int64) (x2 : Int64) (K : SS → Int64 → Prop) : Prop :=
  K σ ((31 * x0) + x2)
def lb_X5_mixBeats_17 (K : SS → Int64 → Prop) (L5 : SS → Int64 → Int32 → Prop) (L17 : SS → Int64 → Int32 → Int32 → Prop) (σ : SS) (x3 : Int64) (x5 : Int32) (x6 : Int32) : Prop :=
  (2 < x6 → (L5 σ x3 (x5 + 1))) ∧ (¬ 2 < x6 → (wp_X5_came σ x5 x6 (fun (σ29 : SS) (r29 : Int32) => wp_X5_mix σ29 x3 r29.toInt64 (fun (σ33 : SS) (r33 : Int64) => L17 σ33 r33 x5 (x6 + 1)))))
def lb_X5_mixBeats_5 (K : SS → Int64 → Prop) (L5 : SS → Int64 → Int32 → Prop) (σ : SS) (x3 : Int64) (x5 : Int32) : Prop :=
  ((gI σ 0 1) ≤ x5 → (K σ x3)) ∧ (¬ (gI σ 0 1) ≤ x5 → (∃ n, fx4 (lb_X5_mixBeats_17 K L5) n σ x3 x5 0))
def wp_X5_mixBeats (σ : SS) (x1 : Int64) (K : SS → Int64 → Prop) : Prop :=
  ∃ n, fx3 (lb_X5_mixBeats_5 K) n σ x1 0
def bl_X5_mixNews_46 (K : SS → Int64 → Prop) (L5 : SS → Int64 → Int32 → Prop) (σ : SS) (x3 : Int64) (x5 : Int32) : Prop :=
  wp_X5_expected σ x5 0 (fun (σ51 : SS) (r51 : Int64) => wp_X5_mix σ51 x3 r51 (fun (σ54 : SS) (r54 : Int64) => wp_X5_expected σ54 x5 1 (fun (σ63 : SS) (r63 : Int64) => wp_X5_mix σ63 r54 r63 (fun (σ66 : SS) (r66 : Int64) => L5 σ66 r66 (x5 + 1)))))
def lb_X5_mixNews_20 (K : SS → Int64 → Prop) (L5 : SS → Int64 → Int32 → Prop) (L20 : SS → Int64 → Int32 → Int32 → Prop) (σ : SS) (x3 : Int64) (x5 : Int32) (x6 : Int32) : Prop :=
  (2 < x6 → (bl_X5_mixNews_46 K L5 σ x3 x5)) ∧ (¬ 2 < x6 → (wp_X5_news σ x5 x6 (fun (σ32 : SS) (r32 : Int32) => wp_X5_mix σ32 x3 r32.toInt64 (fun (σ36 : SS) (r36 : Int64) => L20 σ36 r36 x5 (x6 + 1)))))
def lb_X5_mixNews_5 (K : SS → Int64 → Prop) (L5 : SS → Int64 → Int32 → Prop) (σ : SS) (x3 : Int64) (x5 : Int32) : Prop :=
  ((gI σ 5 7) ≤ x5 → (K σ x3)) ∧ (¬ (gI σ 5 7) ≤ x5 → (∃ n, fx4 (lb_X5_mixNews_20 K L5) n σ x3 x5 0))
def wp_X5_mixNews (σ : SS) (x1 : Int64) (K : SS → Int64 → Prop) : Prop :=
  ∃ n, fx3 (lb_X5_mixNews_5 K) n σ x1 0
def lb_X5_mixWatcher_121 (K : SS → Int64 → Prop) (L121 : SS → Int32 → Int64 → Int32 → Prop) (σ : SS) (x3 : Int32) (x4 : Int64) (x6 : Int32) : Prop :=
  ((gI σ 5 7) ≤ x6 → (K σ x4)) ∧ (¬ (gI σ 5 7) ≤ x6 → (wp_X5_limit σ x3 x6 (fun (σ139 : SS) (r139 : Int32) => wp_X5_mix σ139 x4 r139.toInt64 (fun (σ143 : SS) (r143 : Int64) => L121 σ143 x3 r143 (x6 + 1)))))
def lb_X5_mixWatcher_83 (K : SS → Int64 → Prop) (L63 : SS → Int32 → Int64 → Int32 → Prop) (L83 : SS → Int32 → Int64 → Int32 → Int32 → Prop) (σ : SS) (x3 : Int32) (x4 : Int64) (x6 : Int32) (x7 : Int32) : Prop :=
  (2 < x7 → (L63 σ x3 x4 (x6 + 1))) ∧ (¬ 2 < x7 → (wp_X5_ledger σ x3 x6 x7 (fun (σ97 : SS) (r97 : Int32) => wp_X5_mix σ97 x4 r97.toInt64 (fun (σ101 : SS) (r101 : Int64) => L83 σ101 x3 r101 x6 (x7 + 1)))))
def lb_X5_mixWatcher_63 (K : SS → Int64 → Prop) (L63 : SS → Int32 → Int64 → Int32 → Prop) (σ : SS) (x3 : Int32) (x4 : Int64) (x6 : Int32) : Prop :=
  vp_in x3 5 ∧ (((gI σ ((26 + 6 * x3.toNatClampNeg) + 1) 3) ≤ x6 → (∃ n, fx4 (lb_X5_mixWatcher_121 K) n σ x3 x4 0)) ∧ (¬ (gI σ ((26 + 6 * x3.toNatClampNeg) + 1) 3) ≤ x6 → (∃ n, fx5 (lb_X5_mixWatcher_83 K L63) n σ x3 x4 x6 0)))
def bl_X5_mixWatcher_34 (K : SS → Int64 → Prop) (σ : SS) (x3 : Int32) (x4 : Int64) : Prop :=
  wp_X5_noticed σ x3 (fun (σ38 : SS) (r38 : Int32) => wp_X5_mix σ38 x4 r38.toInt64 (fun (σ42 : SS) (r42 : Int64) => wp_X5_longest σ42 x3 (fun (σ51 : SS) (r51 : Int32) => wp_X5_mix σ51 r42 r51.toInt64 (fun (σ55 : SS) (r55 : Int64) => ∃ n, fx4 (lb_X5_mixWatcher_63 K) n σ55 x3 r55 0))))
def lb_X5_mixWatcher_6 (K : SS → Int64 → Prop) (L6 : SS → Int32 → Int64 → Int32 → Prop) (σ : SS) (x3 : Int32) (x4 : Int64) (x6 : Int32) : Prop :=
  (9 < x6 → (bl_X5_mixWatcher_34 K σ x3 x4)) ∧ (¬ 9 < x6 → (wp_X5_info σ x3 x6 (fun (σ19 : SS) (r19 : Int32) => wp_X5_mix σ19 x4 r19.toInt64 (fun (σ23 : SS) (r23 : Int64) => L6 σ23 x3 r23 (x6 + 1)))))
def wp_X5_mixWatcher (σ : SS) (x1 : Int64) (x3 : Int32) (K : SS → Int64 → Prop) : Prop :=
  ∃ n, fx4 (lb_X5_mixWatcher_6 K) n σ x3 x1 0
def bl_X5_digest_153 (K : SS → Int64 → Prop) (σ : SS) (x1 : Int64) : Prop :=
  wp_X5_shared σ (fun (σ155 : SS) (r155 : Int32) => wp_X5_mix σ155 x1 r155.toInt64 (fun (σ159 : SS) (r159 : Int64) => wp_X5_saved σ159 (fun (σ165 : SS) (r165 : Int32) => wp_X5_mix σ165 r159 r165.toInt64 (fun (σ169 : SS) (r169 : Int64) => K σ169 r169))))
def lb_X5_digest_118 (K : SS → Int64 → Prop) (L118 : SS → Int64 → Int32 → Prop) (σ : SS) (x1 : Int64) (x3 : Int32) : Prop :=
  (2 < x3 → (bl_X5_digest_153 K σ x1)) ∧ (¬ 2 < x3 → (wp_X5_least σ x3 0 (fun (σ127 : SS) (r127 : Int32) => wp_X5_mix σ127 x1 r127.toInt64 (fun (σ131 : SS) (r131 : Int64) => wp_X5_least σ131 x3 2 (fun (σ139 : SS) (r139 : Int32) => wp_X5_mix σ139 r131 r139.toInt64 (fun (σ143 : SS) (r143 : Int64) => L118 σ143 r143 (x3 + 1)))))))
def lb_X5_digest_70 (K : SS → Int64 → Prop) (L70 : SS → Int64 → Int32 → Prop) (σ : SS) (x1 : Int64) (x3 : Int32) : Prop :=
  (1000 < x3 → (∃ n, fx3 (lb_X5_digest_118 K) n σ x1 0)) ∧ (¬ 1000 < x3 → (wp_X5_doubts σ x3 (fun (σ80 : SS) (r80 : Int32) => wp_X5_mix σ80 x1 r80.toInt64 (fun (σ84 : SS) (r84 : Int64) => wp_X5_score σ84 x3 0 (fun (σ92 : SS) (r92 : Int64) => wp_X5_mix σ92 r84 r92 (fun (σ95 : SS) (r95 : Int64) => wp_X5_score σ95 x3 1 (fun (σ103 : SS) (r103 : Int64) => wp_X5_mix σ103 r95 r103 (fun (σ106 : SS) (r106 : Int64) => L70 σ106 r106 (x3 + 50)))))))))
def lb_X5_digest_47 (K : SS → Int64 → Prop) (L47 : SS → Int64 → Int32 → Prop) (σ : SS) (x1 : Int64) (x3 : Int32) : Prop :=
  ((gI σ 0 6) ≤ x3 → (∃ n, fx3 (lb_X5_digest_70 K) n σ x1 0)) ∧ (¬ (gI σ 0 6) ≤ x3 → (wp_X5_mixWatcher σ x1 x3 (fun (σ58 : SS) (r58 : Int64) => L47 σ58 r58 (x3 + 1))))
def bl_X5_digest_33 (K : SS → Int64 → Prop) (σ : SS) (x1 : Int64) : Prop :=
  wp_X5_mixBeats σ x1 (fun (σ35 : SS) (r35 : Int64) => wp_X5_mixNews σ35 r35 (fun (σ41 : SS) (r41 : Int64) => ∃ n, fx3 (lb_X5_digest_47 K) n σ41 r41 0))
def lb_X5_digest_10 (K : SS → Int64 → Prop) (L10 : SS → Int64 → Int32 → Prop) (σ : SS) (x1 : Int64) (x3 : Int32) : Prop :=
  (7 < x3 → (bl_X5_digest_33 K σ x1)) ∧ (¬ 7 < x3 → (wp_X5_count σ x3 (fun (σ19 : SS) (r19 : Int32) => wp_X5_mix σ19 x1 r19.toInt64 (fun (σ23 : SS) (r23 : Int64) => L10 σ23 r23 (x3 + 1)))))
def wp_X5_digest (σ : SS) (K : SS → Int64 → Prop) : Prop :=
  wp_X5_followArrivals σ (fun (σ1 : SS) => ∃ n, fx3 (lb_X5_digest_10 K) n σ1 17 0)
