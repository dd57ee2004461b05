def wp_X6_in (σ : SS) (x0 : Int32) (x1 : Int32) (x2 : Int32) (K : SS → Int32 → Prop) : Prop :=
  (x0 < x1 → (K σ 0)) ∧ (¬ x0 < x1 → ((x2 < x0 → (K σ 0)) ∧ (¬ x2 < x0 → (K σ 1))))
def wp_X6_no (σ : SS) (x0 : Int32) (K : SS → Int64 → Prop) : Prop :=
  K σ ((-9223372036854775808) - x0.toInt64)
def bl_X6_partOf_42 (K : SS → Int64 → Prop) (σ : SS) (x0 : Int64) (x2 : Int64) (x4 : Int32) (x5 : Int64) : Prop :=
  (¬ x4 = 0 → (¬ x5 = 0 ∧ (K σ (x2 / x5)))) ∧ (x4 = 0 → (¬ x5 = 0 ∧ (K σ (x0 / x5))))
def lb_X6_partOf_17 (K : SS → Int64 → Prop) (L17 : SS → Int64 → Int64 → Int32 → Int64 → Int64 → Prop) (σ : SS) (x0 : Int64) (x2 : Int64) (x4 : Int32) (x5 : Int64) (x7 : Int64) : Prop :=
  ((lg_cmp x7 0) = 0 → (bl_X6_partOf_42 K σ x0 x2 x4 x5)) ∧ (¬ (lg_cmp x7 0) = 0 → (¬ x7 = 0 ∧ (L17 σ x0 x2 x4 x7 (x5 - x5 / x7 * x7))))
def wp_X6_partOf (σ : SS) (x0 : Int64) (x2 : Int64) (x4 : Int32) (K : SS → Int64 → Prop) : Prop :=
  (0 ≤ (lg_cmp x0 0) → (∃ n, fx6 (lb_X6_partOf_17 K) n σ x0 x2 x4 x0 x2)) ∧ (¬ 0 ≤ (lg_cmp x0 0) → (∃ n, fx6 (lb_X6_partOf_17 K) n σ x0 x2 x4 (-x0) x2))
def wp_X6_adds (σ : SS) (x1 : Int32) (K : SS → Int32 → Prop) : Prop :=
  wp_X6_in σ x1 (-1) 99 (fun (σ4 : SS) (r4 : Int32) => (¬ r4 = 0 → ((¬ (gI σ4 100 1) = 40 → (vp_in (gI σ4 100 1) 40 ∧ (K (sI (sA σ4 101 (gI σ4 100 1).toNatClampNeg x1) 100 1 ((gI σ4 100 1) + 1)) (gI (sI (sA σ4 101 (gI σ4 100 1).toNatClampNeg x1) 100 1 ((gI σ4 100 1) + 1)) 100 1)))) ∧ ((gI σ4 100 1) = 40 → (K σ4 (-4))))) ∧ (r4 = 0 → (K σ4 (-2))))
def wp_X6_beat (σ : SS) (x1 : Int32) (K : SS → Int32 → Prop) : Prop :=
  wp_X6_adds σ x1 (fun (σ2 : SS) (r2 : Int32) => K σ2 r2)
def lb_X6_beats_40 (K : SS → Int32 → Prop) (L40 : SS → Int32 → Int32 → Int32 → Int32 → Prop) (σ : SS) (x2 : Int32) (x3 : Int32) (x4 : Int32) (x5 : Int32) : Prop :=
  (x3 ≤ x5 → (K σ x5)) ∧ (¬ x3 ≤ x5 → (wp_X6_adds σ x4 (fun (σ49 : SS) (r49 : Int32) => (r49 ≤ 0 → (K σ49 x5)) ∧ (¬ r49 ≤ 0 → (L40 σ49 x2 x3 (((x4 + x2) + 100) - ((x4 + x2) + 100) / 100 * 100) (x5 + 1))))))
def wp_X6_beats (σ : SS) (x1 : Int32) (x2 : Int32) (x3 : Int32) (K : SS → Int32 → Prop) : Prop :=
  wp_X6_in σ x1 0 99 (fun (σ4 : SS) (r4 : Int32) => (r4 = 0 → (K σ4 (-2))) ∧ (¬ r4 = 0 → (wp_X6_in σ4 x2 (-99) 99 (fun (σ15 : SS) (r15 : Int32) => (r15 = 0 → (K σ15 (-2))) ∧ (¬ r15 = 0 → (wp_X6_in σ15 x3 1 40 (fun (σ25 : SS) (r25 : Int32) => (¬ r25 = 0 → (∃ n, fx5 (lb_X6_beats_40 K) n σ25 x2 x3 x1 0)) ∧ (r25 = 0 → (K σ25 (-2))))))))))
def wp_X6_isBeat (σ : SS) (x1 : Int32) (K : SS → Int32 → Prop) : Prop :=
  wp_X6_in σ x1 0 ((gI σ 100 1) - 1) (fun (σ8 : SS) (r8 : Int32) => (r8 = 0 ∨ r8 = 1) ∧ K σ8 r8)
def wp_X6_delay (σ : SS) (x1 : Int32) (x2 : Int32) (K : SS → Int32 → Prop) : Prop :=
  wp_X6_isBeat σ x1 (fun (σ2 : SS) (r2 : Int32) => (r2 = 0 → (K σ2 (-2))) ∧ (¬ r2 = 0 → (wp_X6_in σ2 x2 (-1) 99 (fun (σ12 : SS) (r12 : Int32) => (¬ r12 = 0 → (vp_in x1 40 ∧ (vp_in x1 40 ∧ (K (sA σ12 101 x1.toNatClampNeg x2) (gA σ12 101 x1.toNatClampNeg))))) ∧ (r12 = 0 → (K σ12 (-2)))))))
def wp_X6_back (σ : SS) (K : SS → Int32 → Prop) : Prop :=
  (¬ (gI σ 100 1) = 0 → (K (sI σ 100 1 ((gI σ 100 1) - 1)) (gI (sI σ 100 1 ((gI σ 100 1) - 1)) 100 1))) ∧ ((gI σ 100 1) = 0 → (K σ (-3)))
def bl_X6_set_50 (K : SS → Int32 → Prop) (σ : SS) (x1 : Int32) (x2 : Int32) (k0 : Int32) : Prop :=
  (¬ x1 = 0 → (K (sI σ 100 3 x2) k0)) ∧ (x1 = 0 → (K (sI σ 100 2 x2) k0))
def wp_X6_set (σ : SS) (x1 : Int32) (x2 : Int32) (K : SS → Int32 → Prop) : Prop :=
  (¬ x1 = 0 → ((¬ x1 = 1 → (K σ (-2))) ∧ (x1 = 1 → (wp_X6_in σ x2 1 16 (fun (σ26 : SS) (r26 : Int32) => (¬ r26 = 0 → ((¬ x1 = 0 → (bl_X6_set_50 K σ26 x1 x2 (gI σ26 100 3))) ∧ (x1 = 0 → (bl_X6_set_50 K σ26 x1 x2 (gI σ26 100 2))))) ∧ (r26 = 0 → (K σ26 (-2)))))))) ∧ (x1 = 0 → (wp_X6_in σ x2 1 50 (fun (σ8 : SS) (r8 : Int32) => (¬ r8 = 0 → ((¬ x1 = 0 → (bl_X6_set_50 K σ8 x1 x2 (gI σ8 100 3))) ∧ (x1 = 0 → (bl_X6_set_50 K σ8 x1 x2 (gI σ8 100 2))))) ∧ (r8 = 0 → (K σ8 (-2))))))
def wp_X6_silence (σ : SS) (x1 : Int32) (K : SS → Int32 → Prop) : Prop :=
  wp_X6_in σ x1 (-1) 5000 (fun (σ5 : SS) (r5 : Int32) => (¬ r5 = 0 → (K (sI σ5 100 4 x1) (gI σ5 100 4))) ∧ (r5 = 0 → (K σ5 (-2))))
def wp_X6_isSheet (σ : SS) (x0 : Int32) (K : SS → Int32 → Prop) : Prop :=
  wp_X6_in σ x0 0 3 (fun (σ3 : SS) (r3 : Int32) => (r3 = 0 ∨ r3 = 1) ∧ K σ3 r3)
def wp_X6_meets (σ : SS) (x1 : Int32) (K : SS → Int32 → Prop) : Prop :=
  K (sI σ 100 27 x1) ((-10) - x1)
def lb_X6_read_41 (K : SS → Int32 → Prop) (L41 : SS → Int32 → Int32 → Prop) (σ : SS) (x1 : Int32) (x2 : Int32) : Prop :=
  vp_in x1 4 ∧ (((gA σ 111 x1.toNatClampNeg) ≤ x2 → (K σ x2)) ∧ (¬ (gA σ 111 x1.toNatClampNeg) ≤ x2 → (vp_in ((40 * x1) + x2) 160 ∧ (((lg_cmp (gL σ 112 ((40 * x1) + x2).toNatClampNeg) (-1)) < 0 → (K σ x2)) ∧ (¬ (lg_cmp (gL σ 112 ((40 * x1) + x2).toNatClampNeg) (-1)) < 0 → (vp_in ((40 * x1) + x2) 160 ∧ ((0 < (lg_cmp (gL σ 112 ((40 * x1) + x2).toNatClampNeg) 99) → (K σ x2)) ∧ (¬ 0 < (lg_cmp (gL σ 112 ((40 * x1) + x2).toNatClampNeg) 99) → (vp_in ((40 * x1) + x2) 160 ∧ (wp_X6_adds σ ((gL σ 112 ((40 * x1) + x2).toNatClampNeg).toInt32) (fun (σ100 : SS) (r100 : Int32) => (r100 ≤ 0 → (K σ100 x2)) ∧ (¬ r100 ≤ 0 → (L41 σ100 x1 (x2 + 1))))))))))))))
def wp_X6_read (σ : SS) (x1 : Int32) (K : SS → Int32 → Prop) : Prop :=
  wp_X6_isSheet σ x1 (fun (σ1 : SS) (r1 : Int32) => (¬ r1 = 0 → (vp_in x1 4 ∧ (((gA σ1 110 x1.toNatClampNeg) = 0 → (∃ n, fx3 (lb_X6_read_41 K) n σ1 x1 0)) ∧ (¬ (gA σ1 110 x1.toNatClampNeg) = 0 → (vp_in x1 4 ∧ ((¬ (gA σ1 110 x1.toNatClampNeg) = (-1) → (wp_X6_meets σ1 3 (fun (σ35 : SS) (r35 : Int32) => K σ35 r35))) ∧ ((gA σ1 110 x1.toNatClampNeg) = (-1) → (wp_X6_meets σ1 1 (fun (σ35 : SS) (r35 : Int32) => K σ35 r35))))))))) ∧ (r1 = 0 → (K σ1 (-2))))
def wp_X6_isLost (σ : SS) (x1 : Int32) (K : SS → Int32 → Prop) : Prop :=
  vp_in x1 40 ∧ (((gA σ 101 x1.toNatClampNeg) = (-1) → (K σ 1)) ∧ (¬ (gA σ 101 x1.toNatClampNeg) = (-1) → (((gI σ 100 4) = (-1) → (K σ 0)) ∧ (¬ (gI σ 100 4) = (-1) → (((x1 * (gI σ 100 2)) < (gI σ 100 4) → (K σ 0)) ∧ (¬ (x1 * (gI σ 100 2)) < (gI σ 100 4) → (K σ 1)))))))
def wp_X6_timeOf (σ : SS) (x1 : Int32) (K : SS → Int32 → Prop) : Prop :=
  wp_X6_isLost σ x1 (fun (σ2 : SS) (r2 : Int32) => (r2 = 0 → (vp_in x1 40 ∧ (K σ2 ((x1 * (gI σ2 100 2)) + (gA σ2 101 x1.toNatClampNeg))))) ∧ (¬ r2 = 0 → (K σ2 (-1))))
def lb_X6_isNews_18 (K : SS → Int32 → Prop) (L18 : SS → Int32 → Int32 → Int32 → Prop) (σ : SS) (x1 : Int32) (x2 : Int32) (x3 : Int32) : Prop :=
  ((gI σ 100 1) ≤ x3 → ((x2 = 0 ∨ x2 = 1) ∧ K σ x2)) ∧ (¬ (gI σ 100 1) ≤ x3 → ((x2 = 0 → ((x2 = 0 ∨ x2 = 1) ∧ K σ x2)) ∧ (¬ x2 = 0 → (wp_X6_isLost σ x3 (fun (σ32 : SS) (r32 : Int32) => (¬ r32 = 0 → (L18 σ32 x1 1 (x3 + 1))) ∧ (r32 = 0 → (wp_X6_timeOf σ32 x3 (fun (σ40 : SS) (r40 : Int32) => wp_X6_timeOf σ40 x1 (fun (σ45 : SS) (r45 : Int32) => (r40 < r45 → (L18 σ45 x1 0 (x3 + 1))) ∧ (¬ r40 < r45 → (L18 σ45 x1 1 (x3 + 1))))))))))))
def wp_X6_isNews (σ : SS) (x1 : Int32) (K : SS → Int32 → Prop) : Prop :=
  wp_X6_isLost σ x1 (fun (σ2 : SS) (r2 : Int32) => (¬ r2 = 0 → (∃ n, fx4 (lb_X6_isNews_18 K) n σ2 x1 0 (x1 + 1))) ∧ (r2 = 0 → (∃ n, fx4 (lb_X6_isNews_18 K) n σ2 x1 1 (x1 + 1))))
def lb_X6_findsNews_7 (K : SS → Prop) (L7 : SS → Int32 → Prop) (σ : SS) (x1 : Int32) : Prop :=
  ((gI σ 100 1) ≤ x1 → (K σ)) ∧ (¬ (gI σ 100 1) ≤ x1 → (wp_X6_isNews σ x1 (fun (σ17 : SS) (r17 : Int32) => (r17 = 0 → (L7 σ17 (x1 + 1))) ∧ (¬ r17 = 0 → (vp_in (gI σ17 100 7) 40 ∧ (wp_X6_timeOf (sA σ17 102 (gI σ17 100 7).toNatClampNeg x1) x1 (fun (σ43 : SS) (r43 : Int32) => vp_in (gI σ17 100 7) 40 ∧ (L7 (sI (sA σ43 103 (gI σ17 100 7).toNatClampNeg r43) 100 7 ((gI σ43 100 7) + 1)) (x1 + 1)))))))))
def wp_X6_findsNews (σ : SS) (K : SS → Prop) : Prop :=
  ∃ n, fx2 (lb_X6_findsNews_7 K) n (sI σ 100 7 0) 0
def bl_X6_cameOf_42 (K : SS → Int32 → Prop) (σ : SS) (x1 : Int32) (x2 : Int32) (x3 : Int32) : Prop :=
  (¬ x2 = 0 → ((¬ x2 = 1 → (K σ x3)) ∧ (x2 = 1 → (wp_X6_timeOf σ x1 (fun (σ74 : SS) (r74 : Int32) => K σ74 r74))))) ∧ (x2 = 0 → (wp_X6_isLost σ x1 (fun (σ48 : SS) (r48 : Int32) => (r48 = 0 → (vp_in x1 40 ∧ (K σ48 (gA σ48 101 x1.toNatClampNeg)))) ∧ (¬ r48 = 0 → (K σ48 (-1))))))
def lb_X6_cameOf_9 (K : SS → Int32 → Prop) (L9 : SS → Int32 → Int32 → Int32 → Int32 → Prop) (σ : SS) (x1 : Int32) (x2 : Int32) (x3 : Int32) (x4 : Int32) : Prop :=
  ((gI σ 100 7) ≤ x4 → (bl_X6_cameOf_42 K σ x1 x2 x3)) ∧ (¬ (gI σ 100 7) ≤ x4 → (vp_in x4 40 ∧ ((¬ (gA σ 102 x4.toNatClampNeg) = x1 → (L9 σ x1 x2 x3 (x4 + 1))) ∧ ((gA σ 102 x4.toNatClampNeg) = x1 → (L9 σ x1 x2 x4 (x4 + 1))))))
def wp_X6_cameOf (σ : SS) (x1 : Int32) (x2 : Int32) (K : SS → Int32 → Prop) : Prop :=
  wp_X6_findsNews σ (fun (σ1 : SS) => ∃ n, fx5 (lb_X6_cameOf_9 K) n σ1 x1 x2 (-1) 0)
def wp_X6_came (σ : SS) (x1 : Int32) (x2 : Int32) (K : SS → Int32 → Prop) : Prop :=
  wp_X6_isBeat σ x1 (fun (σ2 : SS) (r2 : Int32) => (r2 = 0 → (K σ2 (-2))) ∧ (¬ r2 = 0 → (wp_X6_in σ2 x2 0 2 (fun (σ11 : SS) (r11 : Int32) => (r11 = 0 → (K σ11 (-2))) ∧ (¬ r11 = 0 → (wp_X6_cameOf σ11 x1 x2 (fun (σ20 : SS) (r20 : Int32) => K σ20 r20)))))))
def wp_X6_gapsBy (σ : SS) (x1 : Int32) (K : SS → Int32 → Prop) : Prop :=
  ((gI σ 100 3) ≤ x1 → (K σ (gI σ 100 3))) ∧ (¬ (gI σ 100 3) ≤ x1 → (K σ x1))
def wp_X6_gapAt (σ : SS) (x1 : Int32) (x2 : Int32) (K : SS → Int32 → Prop) : Prop :=
  vp_in (x1 - x2) 40 ∧ (vp_in ((x1 - x2) - 1) 40 ∧ (K σ ((gA σ 103 (x1 - x2).toNatClampNeg) - (gA σ 103 ((x1 - x2) - 1).toNatClampNeg))))
def wp_X6_newsOf (σ : SS) (x1 : Int32) (x2 : Int32) (K : SS → Int32 → Prop) : Prop :=
  (¬ x2 = 0 → ((¬ x2 = 1 → (wp_X6_gapsBy σ x1 (fun (σ29 : SS) (r29 : Int32) => K σ29 r29))) ∧ (x2 = 1 → (vp_in x1 40 ∧ (K σ (gA σ 103 x1.toNatClampNeg)))))) ∧ (x2 = 0 → (vp_in x1 40 ∧ (K σ (gA σ 102 x1.toNatClampNeg))))
def wp_X6_hasNews (σ : SS) (x1 : Int32) (K : SS → Int32 → Prop) : Prop :=
  wp_X6_findsNews σ (fun (σ1 : SS) => wp_X6_in σ1 x1 0 ((gI σ1 100 7) - 1) (fun (σ12 : SS) (r12 : Int32) => (r12 = 0 ∨ r12 = 1) ∧ K σ12 r12))
def wp_X6_news (σ : SS) (x1 : Int32) (x2 : Int32) (K : SS → Int32 → Prop) : Prop :=
  wp_X6_hasNews σ x1 (fun (σ2 : SS) (r2 : Int32) => (r2 = 0 → (K σ2 (-2))) ∧ (¬ r2 = 0 → (wp_X6_in σ2 x2 0 2 (fun (σ11 : SS) (r11 : Int32) => (r11 = 0 → (K σ11 (-2))) ∧ (¬ r11 = 0 → (wp_X6_newsOf σ11 x1 x2 (fun (σ20 : SS) (r20 : Int32) => K σ20 r20)))))))
def wp_X6_belowBy (σ : SS) (x1 : Int32) (K : SS → Int32 → Prop) : Prop :=
  ((gI σ 100 3) ≤ (x1 + 1) → (K σ (gI σ 100 3))) ∧ (¬ (gI σ 100 3) ≤ (x1 + 1) → (K σ (x1 + 1)))
def lb_X6_aboveBy_25 (K : SS → Int32 → Prop) (L25 : SS → Int32 → Int32 → Int32 → Int32 → Prop) (σ : SS) (x1 : Int32) (x2 : Int32) (x3 : Int32) (x4 : Int32) : Prop :=
  (x2 ≤ x4 → (K σ x3)) ∧ (¬ x2 ≤ x4 → (vp_in (x1 - x4) 40 ∧ (vp_in (x1 - x4) 40 ∧ (L25 σ x1 x2 (x3 + ((gA σ 103 (x1 - x4).toNatClampNeg) - ((gI σ 100 2) * (gA σ 102 (x1 - x4).toNatClampNeg)))) (x4 + 1)))))
def wp_X6_aboveBy (σ : SS) (x1 : Int32) (K : SS → Int32 → Prop) : Prop :=
  wp_X6_belowBy σ x1 (fun (σ2 : SS) (r2 : Int32) => vp_in x1 40 ∧ (∃ n, fx5 (lb_X6_aboveBy_25 K) n σ2 x1 r2 ((r2 * (gI σ2 100 2)) * ((gA σ2 102 x1.toNatClampNeg) + 1)) 0))
def wp_X6_expected (σ : SS) (x1 : Int32) (x2 : Int32) (K : SS → Int64 → Prop) : Prop :=
  wp_X6_hasNews σ x1 (fun (σ2 : SS) (r2 : Int32) => (r2 = 0 → (wp_X6_no σ2 (-2) (fun (σ38 : SS) (r38 : Int64) => K σ38 r38))) ∧ (¬ r2 = 0 → (wp_X6_in σ2 x2 0 1 (fun (σ11 : SS) (r11 : Int32) => (r11 = 0 → (wp_X6_no σ11 (-2) (fun (σ38 : SS) (r38 : Int64) => K σ38 r38))) ∧ (¬ r11 = 0 → (wp_X6_aboveBy σ11 x1 (fun (σ19 : SS) (r19 : Int32) => wp_X6_belowBy σ19 x1 (fun (σ25 : SS) (r25 : Int32) => wp_X6_partOf σ25 r19.toInt64 r25.toInt64 x2 (fun (σ30 : SS) (r30 : Int64) => K σ30 r30)))))))))
def lb_X6_lessThan_5 (K : SS → Int32 → Prop) (L5 : SS → Int32 → Int32 → Int32 → Int32 → Prop) (σ : SS) (x1 : Int32) (x2 : Int32) (x3 : Int32) (x4 : Int32) : Prop :=
  wp_X6_gapsBy σ x1 (fun (σ9 : SS) (r9 : Int32) => (r9 ≤ x4 → (K σ9 x3)) ∧ (¬ r9 ≤ x4 → (wp_X6_gapAt σ9 x1 x4 (fun (σ20 : SS) (r20 : Int32) => (x2 ≤ r20 → (L5 σ20 x1 x2 (x3 + 0) (x4 + 1))) ∧ (¬ x2 ≤ r20 → (L5 σ20 x1 x2 (x3 + 1) (x4 + 1)))))))
def wp_X6_lessThan (σ : SS) (x1 : Int32) (x2 : Int32) (K : SS → Int32 → Prop) : Prop :=
  ∃ n, fx5 (lb_X6_lessThan_5 K) n σ x1 x2 0 0
def bl_X6_scoreOf_42 (K : SS → Int64 → Prop) (σ : SS) (x1 : Int32) (x2 : Int32) (x3 : Int32) : Prop :=
  (1 ≤ x3 → (vp_in x3 40 ∧ (wp_X6_lessThan σ x3 (x1 - (gA σ 103 x3.toNatClampNeg)) (fun (σ65 : SS) (r65 : Int32) => wp_X6_gapsBy σ65 x3 (fun (σ71 : SS) (r71 : Int32) => wp_X6_partOf σ71 r65.toInt64 r71.toInt64 x2 (fun (σ76 : SS) (r76 : Int64) => K σ76 r76)))))) ∧ (¬ 1 ≤ x3 → (wp_X6_no σ (-3) (fun (σ49 : SS) (r49 : Int64) => K σ49 r49)))
def lb_X6_scoreOf_9 (K : SS → Int64 → Prop) (L9 : SS → Int32 → Int32 → Int32 → Int32 → Prop) (σ : SS) (x1 : Int32) (x2 : Int32) (x3 : Int32) (x4 : Int32) : Prop :=
  ((gI σ 100 7) ≤ x4 → (bl_X6_scoreOf_42 K σ x1 x2 x3)) ∧ (¬ (gI σ 100 7) ≤ x4 → (vp_in x4 40 ∧ ((x1 < (gA σ 103 x4.toNatClampNeg) → (L9 σ x1 x2 x3 (x4 + 1))) ∧ (¬ x1 < (gA σ 103 x4.toNatClampNeg) → (L9 σ x1 x2 x4 (x4 + 1))))))
def wp_X6_scoreOf (σ : SS) (x1 : Int32) (x2 : Int32) (K : SS → Int64 → Prop) : Prop :=
  wp_X6_findsNews σ (fun (σ1 : SS) => ∃ n, fx5 (lb_X6_scoreOf_9 K) n σ1 x1 x2 (-1) 0)
def wp_X6_score (σ : SS) (x1 : Int32) (x2 : Int32) (K : SS → Int64 → Prop) : Prop :=
  wp_X6_in σ x1 0 6000 (fun (σ5 : SS) (r5 : Int32) => (r5 = 0 → (wp_X6_no σ5 (-2) (fun (σ31 : SS) (r31 : Int64) => K σ31 r31))) ∧ (¬ r5 = 0 → (wp_X6_in σ5 x2 0 1 (fun (σ14 : SS) (r14 : Int32) => (r14 = 0 → (wp_X6_no σ14 (-2) (fun (σ31 : SS) (r31 : Int64) => K σ31 r31))) ∧ (¬ r14 = 0 → (wp_X6_scoreOf σ14 x1 x2 (fun (σ23 : SS) (r23 : Int64) => K σ23 r23)))))))
def wp_X6_isMeasure (σ : SS) (x0 : Int32) (x1 : Int32) (K : SS → Int32 → Prop) : Prop :=
  (x0 = 0 → (wp_X6_in σ x1 0 99 (fun (σ32 : SS) (r32 : Int32) => (r32 = 0 ∨ r32 = 1) ∧ K σ32 r32))) ∧ (x0 = 1 → (wp_X6_in σ x1 1 10 (fun (σ40 : SS) (r40 : Int32) => (r40 = 0 ∨ r40 = 1) ∧ K σ40 r40))) ∧ (x0 = 2 → (wp_X6_in σ x1 1 200 (fun (σ49 : SS) (r49 : Int32) => (r49 = 0 ∨ r49 = 1) ∧ K σ49 r49))) ∧ (¬ x0 = 0 → ¬ x0 = 1 → ¬ x0 = 2 → ((¬ x0 = 3 → (K σ 0)) ∧ (x0 = 3 → (wp_X6_in σ x1 0 30 (fun (σ62 : SS) (r62 : Int32) => (r62 = 0 → (K σ62 0)) ∧ (¬ r62 = 0 → (K σ62 1)))))))
def wp_X6_watcher (σ : SS) (x1 : Int32) (x2 : Int32) (K : SS → Int32 → Prop) : Prop :=
  wp_X6_isMeasure σ x1 x2 (fun (σ2 : SS) (r2 : Int32) => (¬ r2 = 0 → ((¬ (gI σ2 100 12) = 5 → (vp_in (gI σ2 100 12) 5 ∧ (vp_in (gI σ2 100 12) 5 ∧ (vp_in (gI σ2 100 12) 5 ∧ (vp_in (gI σ2 100 12) 5 ∧ (K (sI (sA (sA (sA (sA σ2 104 (gI σ2 100 12).toNatClampNeg x1) 105 (gI σ2 100 12).toNatClampNeg x2) 106 (gI σ2 100 12).toNatClampNeg (-1)) 107 (gI σ2 100 12).toNatClampNeg (-1)) 100 12 ((gI σ2 100 12) + 1)) ((gI (sI (sA (sA (sA (sA σ2 104 (gI σ2 100 12).toNatClampNeg x1) 105 (gI σ2 100 12).toNatClampNeg x2) 106 (gI σ2 100 12).toNatClampNeg (-1)) 107 (gI σ2 100 12).toNatClampNeg (-1)) 100 12 ((gI σ2 100 12) + 1)) 100 12) - 1))))))) ∧ ((gI σ2 100 12) = 5 → (K σ2 (-4))))) ∧ (r2 = 0 → (K σ2 (-2))))
def wp_X6_leaves (σ : SS) (K : SS → Int32 → Prop) : Prop :=
  (¬ (gI σ 100 12) = 0 → (K (sI σ 100 12 ((gI σ 100 12) - 1)) (gI (sI σ 100 12 ((gI σ 100 12) - 1)) 100 12))) ∧ ((gI σ 100 12) = 0 → (K σ (-3)))
def wp_X6_isWatcher (σ : SS) (x1 : Int32) (K : SS → Int32 → Prop) : Prop :=
  wp_X6_in σ x1 0 ((gI σ 100 12) - 1) (fun (σ8 : SS) (r8 : Int32) => (r8 = 0 ∨ r8 = 1) ∧ K σ8 r8)
def wp_X6_measure (σ : SS) (x1 : Int32) (x2 : Int32) (K : SS → Int32 → Prop) : Prop :=
  wp_X6_isWatcher σ x1 (fun (σ2 : SS) (r2 : Int32) => (r2 = 0 → (K σ2 (-2))) ∧ (¬ r2 = 0 → (vp_in x1 5 ∧ (wp_X6_isMeasure σ2 (gA σ2 104 x1.toNatClampNeg) x2 (fun (σ15 : SS) (r15 : Int32) => (¬ r15 = 0 → (vp_in x1 5 ∧ (vp_in x1 5 ∧ (K (sA σ15 105 x1.toNatClampNeg x2) (gA σ15 105 x1.toNatClampNeg))))) ∧ (r15 = 0 → (K σ15 (-2))))))))
def bl_X6_wish_59 (K : SS → Int32 → Prop) (σ : SS) (x1 : Int32) (x2 : Int32) (x3 : Int32) (k0 : Int32) : Prop :=
  (¬ x2 = 0 → (vp_in x1 5 ∧ (K (sA σ 107 x1.toNatClampNeg x3) k0))) ∧ (x2 = 0 → (vp_in x1 5 ∧ (K (sA σ 106 x1.toNatClampNeg x3) k0)))
def bl_X6_wish_31 (K : SS → Int32 → Prop) (σ : SS) (x1 : Int32) (x2 : Int32) (x3 : Int32) (k0 : Int32) (k1 : Int32) (k2 : Int32) : Prop :=
  wp_X6_in σ k2 k1 k0 (fun (σ31 : SS) (r31 : Int32) => (¬ r31 = 0 → ((¬ x2 = 0 → (vp_in x1 5 ∧ (bl_X6_wish_59 K σ31 x1 x2 x3 (gA σ31 107 x1.toNatClampNeg)))) ∧ (x2 = 0 → (vp_in x1 5 ∧ (bl_X6_wish_59 K σ31 x1 x2 x3 (gA σ31 106 x1.toNatClampNeg)))))) ∧ (r31 = 0 → (K σ31 (-2))))
def wp_X6_wish (σ : SS) (x1 : Int32) (x2 : Int32) (x3 : Int32) (K : SS → Int32 → Prop) : Prop :=
  wp_X6_isWatcher σ x1 (fun (σ2 : SS) (r2 : Int32) => (r2 = 0 → (K σ2 (-2))) ∧ (¬ r2 = 0 → (wp_X6_in σ2 x2 0 1 (fun (σ11 : SS) (r11 : Int32) => (r11 = 0 → (K σ11 (-2))) ∧ (¬ r11 = 0 → ((¬ x2 = 0 → (bl_X6_wish_31 K σ11 x1 x2 x3 40 (-1) x3)) ∧ (x2 = 0 → (bl_X6_wish_31 K σ11 x1 x2 x3 500 (-1) x3))))))))
def wp_X6_up (σ : SS) (x0 : Int32) (x1 : Int32) (K : SS → Int32 → Prop) : Prop :=
  ¬ x1 = 0 ∧ (K σ (((x0 + x1) - 1) / x1))
def bl_X6_tenthsBy_51 (K : SS → Int32 → Prop) (L5 : SS → Int32 → Int32 → Int32 → Int32 → Prop) (σ : SS) (x1 : Int32) (x2 : Int32) (x3 : Int32) (x4 : Int32) (x5 : Int32) (k0 : Int32) : Prop :=
  (k0 = 0 → (L5 σ x1 x2 x3 (x4 + 1))) ∧ (¬ k0 = 0 → ((x3 = (-1) → (L5 σ x1 x2 x5 (x4 + 1))) ∧ (¬ x3 = (-1) → ((x3 ≤ x5 → (L5 σ x1 x2 x3 (x4 + 1))) ∧ (¬ x3 ≤ x5 → (L5 σ x1 x2 x5 (x4 + 1)))))))
def lb_X6_tenthsBy_5 (K : SS → Int32 → Prop) (L5 : SS → Int32 → Int32 → Int32 → Int32 → Prop) (σ : SS) (x1 : Int32) (x2 : Int32) (x3 : Int32) (x4 : Int32) : Prop :=
  wp_X6_gapsBy σ x1 (fun (σ9 : SS) (r9 : Int32) => (r9 ≤ x4 → (K σ9 x3)) ∧ (¬ r9 ≤ x4 → (wp_X6_gapAt σ9 x1 x4 (fun (σ19 : SS) (r19 : Int32) => wp_X6_lessThan σ19 x1 (r19 + 1) (fun (σ32 : SS) (r32 : Int32) => wp_X6_gapsBy σ32 x1 (fun (σ39 : SS) (r39 : Int32) => ((10 * r32) < (x2 * r39) → (bl_X6_tenthsBy_51 K L5 σ39 x1 x2 x3 x4 r19 0)) ∧ (¬ (10 * r32) < (x2 * r39) → (bl_X6_tenthsBy_51 K L5 σ39 x1 x2 x3 x4 r19 1))))))))
def wp_X6_tenthsBy (σ : SS) (x1 : Int32) (x2 : Int32) (K : SS → Int32 → Prop) : Prop :=
  ∃ n, fx5 (lb_X6_tenthsBy_5 K) n σ x1 x2 (-1) 0
def wp_X6_limitBy (σ : SS) (x1 : Int32) (x2 : Int32) (x3 : Int32) (K : SS → Int32 → Prop) : Prop :=
  vp_in x3 40 ∧ ((x1 = 0 → (wp_X6_aboveBy σ x3 (fun (σ38 : SS) (r38 : Int32) => wp_X6_belowBy σ38 x3 (fun (σ43 : SS) (r43 : Int32) => wp_X6_up σ43 r38 r43 (fun (σ46 : SS) (r46 : Int32) => K σ46 (r46 + x2)))))) ∧ (x1 = 1 → (wp_X6_gapsBy σ x3 (fun (σ54 : SS) (r54 : Int32) => (¬ r54 = 0 → (wp_X6_tenthsBy σ54 x3 x2 (fun (σ69 : SS) (r69 : Int32) => K σ69 (((gA σ 103 x3.toNatClampNeg) + r69) + 1)))) ∧ (r54 = 0 → (K σ54 (-1)))))) ∧ (x1 = 2 → (K σ ((gA σ 103 x3.toNatClampNeg) + x2))) ∧ (¬ x1 = 0 → ¬ x1 = 1 → ¬ x1 = 2 → (wp_X6_aboveBy σ x3 (fun (σ83 : SS) (r83 : Int32) => wp_X6_belowBy σ83 x3 (fun (σ88 : SS) (r88 : Int32) => wp_X6_up σ88 r83 r88 (fun (σ91 : SS) (r91 : Int32) => K σ91 (r91 + (x2 * ((gI σ91 100 15) + 1)))))))))
def bl_X6_goes_166 (K : SS → Prop) (L26 : SS → Int32 → Int32 → Int32 → Prop) (σ : SS) (x1 : Int32) (x2 : Int32) (x3 : Int32) (x5 : Int32) (k0 : Int32) : Prop :=
  vp_in x3 40 ∧ (((gA σ 109 x3.toNatClampNeg) = 0 → (L26 (sI σ 100 18 k0) x1 x2 (x3 + 1))) ∧ (¬ (gA σ 109 x3.toNatClampNeg) = 0 → (vp_in (x3 + 1) 40 ∧ ((((gA σ 103 (x3 + 1).toNatClampNeg) - x5) ≤ (gI (sI (sI (sI σ 100 18 k0) 100 15 ((gI (sI σ 100 18 k0) 100 15) + 1)) 100 16 ((gI (sI (sI σ 100 18 k0) 100 15 ((gI (sI σ 100 18 k0) 100 15) + 1)) 100 16) + ((gA σ 103 (x3 + 1).toNatClampNeg) - x5))) 100 17) → (L26 (sI (sI (sI (sI σ 100 18 k0) 100 15 ((gI (sI σ 100 18 k0) 100 15) + 1)) 100 16 ((gI (sI (sI σ 100 18 k0) 100 15 ((gI (sI σ 100 18 k0) 100 15) + 1)) 100 16) + ((gA σ 103 (x3 + 1).toNatClampNeg) - x5))) 100 17 (gI (sI (sI (sI σ 100 18 k0) 100 15 ((gI (sI σ 100 18 k0) 100 15) + 1)) 100 16 ((gI (sI (sI σ 100 18 k0) 100 15 ((gI (sI σ 100 18 k0) 100 15) + 1)) 100 16) + ((gA σ 103 (x3 + 1).toNatClampNeg) - x5))) 100 17)) x1 x2 (x3 + 1))) ∧ (¬ ((gA σ 103 (x3 + 1).toNatClampNeg) - x5) ≤ (gI (sI (sI (sI σ 100 18 k0) 100 15 ((gI (sI σ 100 18 k0) 100 15) + 1)) 100 16 ((gI (sI (sI σ 100 18 k0) 100 15 ((gI (sI σ 100 18 k0) 100 15) + 1)) 100 16) + ((gA σ 103 (x3 + 1).toNatClampNeg) - x5))) 100 17) → (L26 (sI (sI (sI (sI σ 100 18 k0) 100 15 ((gI (sI σ 100 18 k0) 100 15) + 1)) 100 16 ((gI (sI (sI σ 100 18 k0) 100 15 ((gI (sI σ 100 18 k0) 100 15) + 1)) 100 16) + ((gA σ 103 (x3 + 1).toNatClampNeg) - x5))) 100 17 ((gA σ 103 (x3 + 1).toNatClampNeg) - x5)) x1 x2 (x3 + 1)))))))
def bl_X6_goes_124 (K : SS → Prop) (L26 : SS → Int32 → Int32 → Int32 → Prop) (σ : SS) (x1 : Int32) (x2 : Int32) (x3 : Int32) (x5 : Int32) (k0 : Int32) (k1 : Int32) : Prop :=
  vp_in k1 40 ∧ (vp_in x3 40 ∧ ((x5 = (-1) → (bl_X6_goes_166 K L26 (sA σ 109 k1.toNatClampNeg (vp_nar .boolean k0)) x1 x2 x3 x5 (gI σ 100 18))) ∧ (¬ x5 = (-1) → (((x5 - ((gI σ 100 2) * (gA (sA σ 109 k1.toNatClampNeg (vp_nar .boolean k0)) 102 x3.toNatClampNeg))) ≤ (gI σ 100 18) → (bl_X6_goes_166 K L26 (sA σ 109 k1.toNatClampNeg (vp_nar .boolean k0)) x1 x2 x3 x5 (gI σ 100 18))) ∧ (¬ (x5 - ((gI σ 100 2) * (gA (sA σ 109 k1.toNatClampNeg (vp_nar .boolean k0)) 102 x3.toNatClampNeg))) ≤ (gI σ 100 18) → (bl_X6_goes_166 K L26 (sA σ 109 k1.toNatClampNeg (vp_nar .boolean k0)) x1 x2 x3 x5 (x5 - ((gI σ 100 2) * (gA (sA σ 109 k1.toNatClampNeg (vp_nar .boolean k0)) 102 x3.toNatClampNeg)))))))))
def bl_X6_goes_75 (K : SS → Prop) (L26 : SS → Int32 → Int32 → Int32 → Prop) (σ : SS) (x1 : Int32) (x2 : Int32) (x3 : Int32) (k0 : Int32) : Prop :=
  vp_in x3 40 ∧ ((k0 = (-1) → (bl_X6_goes_124 K L26 (sA σ 108 x3.toNatClampNeg k0) x1 x2 x3 k0 0 x3)) ∧ (¬ k0 = (-1) → (((gI σ 100 7) ≤ (x3 + 1) → (bl_X6_goes_124 K L26 (sA σ 108 x3.toNatClampNeg k0) x1 x2 x3 k0 0 x3)) ∧ (¬ (gI σ 100 7) ≤ (x3 + 1) → (vp_in (x3 + 1) 40 ∧ (((gA (sA σ 108 x3.toNatClampNeg k0) 103 (x3 + 1).toNatClampNeg) ≤ k0 → (bl_X6_goes_124 K L26 (sA σ 108 x3.toNatClampNeg k0) x1 x2 x3 k0 0 x3)) ∧ (¬ (gA (sA σ 108 x3.toNatClampNeg k0) 103 (x3 + 1).toNatClampNeg) ≤ k0 → (bl_X6_goes_124 K L26 (sA σ 108 x3.toNatClampNeg k0) x1 x2 x3 k0 1 x3))))))))
def lb_X6_goes_26 (K : SS → Prop) (L26 : SS → Int32 → Int32 → Int32 → Prop) (σ : SS) (x1 : Int32) (x2 : Int32) (x3 : Int32) : Prop :=
  ((gI σ 100 7) ≤ x3 → (K σ)) ∧ (¬ (gI σ 100 7) ≤ x3 → (wp_X6_limitBy σ x1 x2 x3 (fun (σ38 : SS) (r38 : Int32) => (¬ r38 = (-1) → (vp_in x3 40 ∧ ((r38 ≤ (gA σ38 103 x3.toNatClampNeg) → (vp_in x3 40 ∧ (bl_X6_goes_75 K L26 σ38 x1 x2 x3 (gA σ38 103 x3.toNatClampNeg)))) ∧ (¬ r38 ≤ (gA σ38 103 x3.toNatClampNeg) → (bl_X6_goes_75 K L26 σ38 x1 x2 x3 r38))))) ∧ (r38 = (-1) → (bl_X6_goes_75 K L26 σ38 x1 x2 x3 (-1))))))
def wp_X6_goes (σ : SS) (x1 : Int32) (x2 : Int32) (K : SS → Prop) : Prop :=
  wp_X6_findsNews σ (fun (σ1 : SS) => ∃ n, fx4 (lb_X6_goes_26 K) n (sI (sI (sI (sI σ1 100 15 0) 100 16 0) 100 17 0) 100 18 (-1)) x1 x2 0)
def wp_X6_goesAs (σ : SS) (x1 : Int32) (K : SS → Prop) : Prop :=
  vp_in x1 5 ∧ (vp_in x1 5 ∧ (wp_X6_goes σ (gA σ 104 x1.toNatClampNeg) (gA σ 105 x1.toNatClampNeg) (fun (σ13 : SS) => K σ13)))
def bl_X6_isKept_28 (K : SS → Int32 → Prop) (σ : SS) (x1 : Int32) : Prop :=
  vp_in x1 5 ∧ (((gA σ 107 x1.toNatClampNeg) = (-1) → (K σ 1)) ∧ (¬ (gA σ 107 x1.toNatClampNeg) = (-1) → (vp_in x1 5 ∧ (((gA σ 107 x1.toNatClampNeg) < (gI σ 100 15) → (K σ 0)) ∧ (¬ (gA σ 107 x1.toNatClampNeg) < (gI σ 100 15) → (K σ 1))))))
def wp_X6_isKept (σ : SS) (x1 : Int32) (K : SS → Int32 → Prop) : Prop :=
  wp_X6_goesAs σ x1 (fun (σ2 : SS) => vp_in x1 5 ∧ (((gA σ2 106 x1.toNatClampNeg) = (-1) → (bl_X6_isKept_28 K σ2 x1)) ∧ (¬ (gA σ2 106 x1.toNatClampNeg) = (-1) → (vp_in x1 5 ∧ (((gA σ2 106 x1.toNatClampNeg) < (gI σ2 100 18) → (K σ2 0)) ∧ (¬ (gA σ2 106 x1.toNatClampNeg) < (gI σ2 100 18) → (bl_X6_isKept_28 K σ2 x1)))))))
def wp_X6_forGood (σ : SS) (x1 : Int32) (K : SS → Int32 → Prop) : Prop :=
  wp_X6_goesAs σ x1 (fun (σ2 : SS) => (¬ (gI σ2 100 7) = 0 → (vp_in ((gI σ2 100 7) - 1) 40 ∧ (K σ2 (gA σ2 108 ((gI σ2 100 7) - 1).toNatClampNeg)))) ∧ ((gI σ2 100 7) = 0 → (K σ2 (-1))))
def wp_X6_infoOf (σ : SS) (x1 : Int32) (x2 : Int32) (K : SS → Int32 → Prop) : Prop :=
  wp_X6_goesAs σ x1 (fun (σ2 : SS) => (x2 = 0 → (vp_in x1 5 ∧ (K σ2 (gA σ2 104 x1.toNatClampNeg)))) ∧ (x2 = 1 → (vp_in x1 5 ∧ (K σ2 (gA σ2 105 x1.toNatClampNeg)))) ∧ (x2 = 2 → (vp_in x1 5 ∧ (K σ2 (gA σ2 106 x1.toNatClampNeg)))) ∧ (x2 = 3 → (vp_in x1 5 ∧ (K σ2 (gA σ2 107 x1.toNatClampNeg)))) ∧ (x2 = 4 → (K σ2 (gI σ2 100 15))) ∧ (x2 = 5 → (K σ2 (gI σ2 100 16))) ∧ (x2 = 6 → (K σ2 (gI σ2 100 17))) ∧ (x2 = 7 → (K σ2 (gI σ2 100 18))) ∧ (x2 = 8 → (wp_X6_isKept σ2 x1 (fun (σ106 : SS) (r106 : Int32) => (r106 = 0 → (K σ106 0)) ∧ (¬ r106 = 0 → (K σ106 1))))) ∧ (¬ x2 = 0 → ¬ x2 = 1 → ¬ x2 = 2 → ¬ x2 = 3 → ¬ x2 = 4 → ¬ x2 = 5 → ¬ x2 = 6 → ¬ x2 = 7 → ¬ x2 = 8 → (wp_X6_forGood σ2 x1 (fun (σ120 : SS) (r120 : Int32) => K σ120 r120))))
def wp_X6_info (σ : SS) (x1 : Int32) (x2 : Int32) (K : SS → Int32 → Prop) : Prop :=
  wp_X6_isWatcher σ x1 (fun (σ2 : SS) (r2 : Int32) => (r2 = 0 → (K σ2 (-2))) ∧ (¬ r2 = 0 → (wp_X6_in σ2 x2 0 9 (fun (σ12 : SS) (r12 : Int32) => (r12 = 0 → (K σ12 (-2))) ∧ (¬ r12 = 0 → (wp_X6_infoOf σ12 x1 x2 (fun (σ21 : SS) (r21 : Int32) => K σ21 r21)))))))
def bl_X6_ledgerOf_89 (K : SS → Int32 → Prop) (L15 : SS → Int32 → Int32 → Int32 → Int32 → Prop) (σ : SS) (x3 : Int32) (x4 : Int32) (x6 : Int32) (k0 : Int32) : Prop :=
  vp_in x6 40 ∧ (((gA σ 109 x6.toNatClampNeg) = 0 → (L15 σ x3 (x4 - 0) k0 (x6 + 1))) ∧ (¬ (gA σ 109 x6.toNatClampNeg) = 0 → (L15 σ x3 (x4 - 1) k0 (x6 + 1))))
def bl_X6_ledgerOf_44 (K : SS → Int32 → Prop) (L15 : SS → Int32 → Int32 → Int32 → Int32 → Prop) (σ : SS) (x3 : Int32) (x4 : Int32) (x5 : Int32) (x6 : Int32) (k0 : Int32) : Prop :=
  (k0 = 0 → (bl_X6_ledgerOf_89 K L15 σ x3 x4 x6 x5)) ∧ (¬ k0 = 0 → ((¬ x3 = 0 → ((¬ x3 = 1 → (bl_X6_ledgerOf_89 K L15 σ x3 x4 x6 x6)) ∧ (x3 = 1 → (vp_in (x6 + 1) 40 ∧ (bl_X6_ledgerOf_89 K L15 σ x3 x4 x6 (gA σ 103 (x6 + 1).toNatClampNeg)))))) ∧ (x3 = 0 → (vp_in x6 40 ∧ (bl_X6_ledgerOf_89 K L15 σ x3 x4 x6 (gA σ 108 x6.toNatClampNeg))))))
def lb_X6_ledgerOf_15 (K : SS → Int32 → Prop) (L15 : SS → Int32 → Int32 → Int32 → Int32 → Prop) (σ : SS) (x3 : Int32) (x4 : Int32) (x5 : Int32) (x6 : Int32) : Prop :=
  ((gI σ 100 7) ≤ x6 → (K σ x5)) ∧ (¬ (gI σ 100 7) ≤ x6 → (vp_in x6 40 ∧ (((gA σ 109 x6.toNatClampNeg) = 0 → (bl_X6_ledgerOf_44 K L15 σ x3 x4 x5 x6 0)) ∧ (¬ (gA σ 109 x6.toNatClampNeg) = 0 → ((¬ x4 = 0 → (bl_X6_ledgerOf_44 K L15 σ x3 x4 x5 x6 0)) ∧ (x4 = 0 → (bl_X6_ledgerOf_44 K L15 σ x3 x4 x5 x6 1)))))))
def wp_X6_ledgerOf (σ : SS) (x1 : Int32) (x2 : Int32) (x3 : Int32) (K : SS → Int32 → Prop) : Prop :=
  wp_X6_goesAs σ x1 (fun (σ2 : SS) => ∃ n, fx5 (lb_X6_ledgerOf_15 K) n σ2 x3 x2 (-2) 0)
def wp_X6_ledger (σ : SS) (x1 : Int32) (x2 : Int32) (x3 : Int32) (K : SS → Int32 → Prop) : Prop :=
  wp_X6_isWatcher σ x1 (fun (σ2 : SS) (r2 : Int32) => (r2 = 0 → (K σ2 (-2))) ∧ (¬ r2 = 0 → ((x2 < 0 → (K σ2 (-2))) ∧ (¬ x2 < 0 → (wp_X6_in σ2 x3 0 2 (fun (σ15 : SS) (r15 : Int32) => (r15 = 0 → (K σ15 (-2))) ∧ (¬ r15 = 0 → (wp_X6_ledgerOf σ15 x1 x2 x3 (fun (σ25 : SS) (r25 : Int32) => K σ25 r25)))))))))
def wp_X6_limitOf (σ : SS) (x1 : Int32) (x2 : Int32) (K : SS → Int32 → Prop) : Prop :=
  wp_X6_goesAs σ x1 (fun (σ2 : SS) => vp_in x2 40 ∧ (K σ2 (gA σ2 108 x2.toNatClampNeg)))
def wp_X6_limit (σ : SS) (x1 : Int32) (x2 : Int32) (K : SS → Int32 → Prop) : Prop :=
  wp_X6_isWatcher σ x1 (fun (σ2 : SS) (r2 : Int32) => (r2 = 0 → (K σ2 (-2))) ∧ (¬ r2 = 0 → (wp_X6_hasNews σ2 x2 (fun (σ10 : SS) (r10 : Int32) => (r10 = 0 → (K σ10 (-2))) ∧ (¬ r10 = 0 → (wp_X6_limitOf σ10 x1 x2 (fun (σ19 : SS) (r19 : Int32) => K σ19 r19)))))))
def bl_X6_isDoubting_35 (K : SS → Int32 → Prop) (L10 : SS → Int32 → Int32 → Int32 → Prop) (σ : SS) (x2 : Int32) (x3 : Int32) (x4 : Int32) (k0 : Int32) : Prop :=
  (¬ x3 = 0 → (L10 σ x2 1 (x4 + 1))) ∧ (x3 = 0 → (vp_in x4 40 ∧ (((gA σ 108 x4.toNatClampNeg) = (-1) → (L10 σ x2 0 (x4 + 1))) ∧ (¬ (gA σ 108 x4.toNatClampNeg) = (-1) → (vp_in x4 40 ∧ ((x2 < (gA σ 108 x4.toNatClampNeg) → (L10 σ x2 0 (x4 + 1))) ∧ (¬ x2 < (gA σ 108 x4.toNatClampNeg) → ((¬ k0 = 0 → (L10 σ x2 1 (x4 + 1))) ∧ (k0 = 0 → (vp_in x4 40 ∧ (((gA σ 109 x4.toNatClampNeg) = 0 → (L10 σ x2 0 (x4 + 1))) ∧ (¬ (gA σ 109 x4.toNatClampNeg) = 0 → (vp_in (x4 + 1) 40 ∧ (((gA σ 103 (x4 + 1).toNatClampNeg) ≤ x2 → (L10 σ x2 0 (x4 + 1))) ∧ (¬ (gA σ 103 (x4 + 1).toNatClampNeg) ≤ x2 → (L10 σ x2 1 (x4 + 1)))))))))))))))))
def lb_X6_isDoubting_10 (K : SS → Int32 → Prop) (L10 : SS → Int32 → Int32 → Int32 → Prop) (σ : SS) (x2 : Int32) (x3 : Int32) (x4 : Int32) : Prop :=
  ((gI σ 100 7) ≤ x4 → ((x3 = 0 ∨ x3 = 1) ∧ K σ x3)) ∧ (¬ (gI σ 100 7) ≤ x4 → ((¬ (x4 + 1) = (gI σ 100 7) → (bl_X6_isDoubting_35 K L10 σ x2 x3 x4 0)) ∧ ((x4 + 1) = (gI σ 100 7) → (bl_X6_isDoubting_35 K L10 σ x2 x3 x4 1))))
def wp_X6_isDoubting (σ : SS) (x1 : Int32) (x2 : Int32) (K : SS → Int32 → Prop) : Prop :=
  wp_X6_goesAs σ x1 (fun (σ2 : SS) => ∃ n, fx4 (lb_X6_isDoubting_10 K) n σ2 x2 0 0)
def lb_X6_doubtsAt_4 (K : SS → Int32 → Prop) (L4 : SS → Int32 → Int32 → Int32 → Prop) (σ : SS) (x1 : Int32) (x2 : Int32) (x3 : Int32) : Prop :=
  ((gI σ 100 12) ≤ x3 → (K σ x2)) ∧ (¬ (gI σ 100 12) ≤ x3 → (wp_X6_isDoubting σ x3 x1 (fun (σ16 : SS) (r16 : Int32) => (r16 = 0 → (L4 σ16 x1 (x2 ||| 0) (x3 + 1))) ∧ (¬ r16 = 0 → (L4 σ16 x1 (x2 ||| ((1 : Int32) <<< (x3 &&& 31))) (x3 + 1))))))
def wp_X6_doubtsAt (σ : SS) (x1 : Int32) (K : SS → Int32 → Prop) : Prop :=
  ∃ n, fx4 (lb_X6_doubtsAt_4 K) n σ x1 0 0
def wp_X6_doubts (σ : SS) (x1 : Int32) (K : SS → Int32 → Prop) : Prop :=
  wp_X6_in σ x1 0 6000 (fun (σ5 : SS) (r5 : Int32) => (r5 = 0 → (K σ5 (-2))) ∧ (¬ r5 = 0 → (wp_X6_doubtsAt σ5 x1 (fun (σ13 : SS) (r13 : Int32) => K σ13 r13))))
def wp_X6_noticedOf (σ : SS) (x1 : Int32) (K : SS → Int32 → Prop) : Prop :=
  wp_X6_forGood σ x1 (fun (σ2 : SS) (r2 : Int32) => ((gI σ2 100 4) = (-1) → (K σ2 (-1))) ∧ (¬ (gI σ2 100 4) = (-1) → ((¬ r2 = (-1) → (((gI σ2 100 4) ≤ r2 → (K σ2 (r2 - (gI σ2 100 4)))) ∧ (¬ (gI σ2 100 4) ≤ r2 → (K σ2 0)))) ∧ (r2 = (-1) → (K σ2 (-1))))))
def wp_X6_noticed (σ : SS) (x1 : Int32) (K : SS → Int32 → Prop) : Prop :=
  wp_X6_isWatcher σ x1 (fun (σ2 : SS) (r2 : Int32) => (r2 = 0 → (K σ2 (-2))) ∧ (¬ r2 = 0 → (wp_X6_noticedOf σ2 x1 (fun (σ10 : SS) (r10 : Int32) => K σ10 r10))))
def lb_X6_leastOf_13 (K : SS → Int32 → Prop) (L13 : SS → Int32 → Int32 → Int32 → Int32 → Prop) (σ : SS) (x1 : Int32) (x2 : Int32) (x3 : Int32) (x4 : Int32) : Prop :=
  wp_X6_isMeasure σ x1 x4 (fun (σ16 : SS) (r16 : Int32) => (r16 = 0 → (K σ16 x3)) ∧ (¬ r16 = 0 → ((¬ x3 = (-1) → (K σ16 x3)) ∧ (x3 = (-1) → (wp_X6_goes σ16 x1 x4 (fun (σ31 : SS) => (x2 < (gI σ31 100 15) → (L13 σ31 x1 x2 (-1) (x4 + 1))) ∧ (¬ x2 < (gI σ31 100 15) → (L13 σ31 x1 x2 x4 (x4 + 1)))))))))
def wp_X6_leastOf (σ : SS) (x1 : Int32) (x2 : Int32) (K : SS → Int32 → Prop) : Prop :=
  (¬ x1 = 0 → (∃ n, fx5 (lb_X6_leastOf_13 K) n σ x1 x2 (-1) 1)) ∧ (x1 = 0 → (∃ n, fx5 (lb_X6_leastOf_13 K) n σ x1 x2 (-1) 0))
def wp_X6_least (σ : SS) (x1 : Int32) (x2 : Int32) (K : SS → Int32 → Prop) : Prop :=
  wp_X6_in σ x1 0 2 (fun (σ3 : SS) (r3 : Int32) => (r3 = 0 → (K σ3 (-2))) ∧ (¬ r3 = 0 → (wp_X6_in σ3 x2 0 40 (fun (σ13 : SS) (r13 : Int32) => (r13 = 0 → (K σ13 (-2))) ∧ (¬ r13 = 0 → (wp_X6_leastOf σ13 x1 x2 (fun (σ22 : SS) (r22 : Int32) => K σ22 r22)))))))
def bl_X6_greatest_68 (K : SS → Int32 → Prop) (L12 : SS → Int32 → Int32 → Int32 → Int32 → Int32 → Prop) (σ : SS) (x1 : Int32) (x2 : Int32) (x3 : Int32) (x5 : Int32) (x6 : Int32) : Prop :=
  (x6 = 0 → (L12 σ x1 x2 x3 (-1) (x5 + (-1)))) ∧ (¬ x6 = 0 → (L12 σ x1 x2 x3 x5 (x5 + (-1))))
def lb_X6_greatest_35 (K : SS → Int32 → Prop) (L12 : SS → Int32 → Int32 → Int32 → Int32 → Int32 → Prop) (L35 : SS → Int32 → Int32 → Int32 → Int32 → Int32 → Int32 → Prop) (σ : SS) (x1 : Int32) (x2 : Int32) (x3 : Int32) (x5 : Int32) (x6 : Int32) (x7 : Int32) : Prop :=
  (x2 < x7 → (bl_X6_greatest_68 K L12 σ x1 x2 x3 x5 x6)) ∧ (¬ x2 < x7 → ((x6 = 0 → (L35 σ x1 x2 x3 x5 0 (x7 + 1))) ∧ (¬ x6 = 0 → (wp_X6_isKept σ x7 (fun (σ49 : SS) (r49 : Int32) => (r49 = 0 → (L35 σ49 x1 x2 x3 x5 0 (x7 + 1))) ∧ (¬ r49 = 0 → (L35 σ49 x1 x2 x3 x5 1 (x7 + 1))))))))
def lb_X6_greatest_12 (K : SS → Int32 → Prop) (L12 : SS → Int32 → Int32 → Int32 → Int32 → Int32 → Prop) (σ : SS) (x1 : Int32) (x2 : Int32) (x3 : Int32) (x4 : Int32) (x5 : Int32) : Prop :=
  (x5 ≤ 0 → (K (sI σ 100 2 x3) x4)) ∧ (¬ x5 ≤ 0 → ((¬ x4 = (-1) → (K (sI σ 100 2 x3) x4)) ∧ (x4 = (-1) → (∃ n, fx7 (lb_X6_greatest_35 K L12) n (sI σ 100 2 x5) x1 x2 x3 x5 1 x1))))
def wp_X6_greatest (σ : SS) (x1 : Int32) (x2 : Int32) (K : SS → Int32 → Prop) : Prop :=
  ∃ n, fx6 (lb_X6_greatest_12 K) n σ x1 x2 (gI σ 100 2) (-1) 50
def wp_X6_longest (σ : SS) (x1 : Int32) (K : SS → Int32 → Prop) : Prop :=
  wp_X6_isWatcher σ x1 (fun (σ2 : SS) (r2 : Int32) => (r2 = 0 → (K σ2 (-2))) ∧ (¬ r2 = 0 → (wp_X6_greatest σ2 x1 x1 (fun (σ11 : SS) (r11 : Int32) => K σ11 r11))))
def wp_X6_sharedNow (σ : SS) (K : SS → Int32 → Prop) : Prop :=
  wp_X6_greatest σ 0 ((gI σ 100 12) - 1) (fun (σ8 : SS) (r8 : Int32) => K σ8 r8)
def wp_X6_shared (σ : SS) (K : SS → Int32 → Prop) : Prop :=
  wp_X6_sharedNow σ (fun (σ1 : SS) (r1 : Int32) => K σ1 r1)
def lb_X6_savedNow_31 (K : SS → Int32 → Prop) (L31 : SS → Int32 → Int32 → Prop) (σ : SS) (x2 : Int32) (x3 : Int32) : Prop :=
  ((gI σ 100 12) ≤ x3 → (K σ x2)) ∧ (¬ (gI σ 100 12) ≤ x3 → (wp_X6_greatest σ x3 x3 (fun (σ46 : SS) (r46 : Int32) => ¬ r46 = 0 ∧ (L31 σ46 (x2 + ((1000 / r46) + 1)) (x3 + 1)))))
def wp_X6_savedNow (σ : SS) (K : SS → Int32 → Prop) : Prop :=
  wp_X6_sharedNow σ (fun (σ1 : SS) (r1 : Int32) => (r1 = (-1) → (K σ1 (-2147483648))) ∧ (¬ r1 = (-1) → ((¬ (gI σ1 100 12) = 0 → (¬ r1 = 0 ∧ (∃ n, fx3 (lb_X6_savedNow_31 K) n σ1 (-((1000 / r1) + 1)) 0))) ∧ ((gI σ1 100 12) = 0 → (K σ1 (-2147483648))))))
def wp_X6_saved (σ : SS) (K : SS → Int32 → Prop) : Prop :=
  wp_X6_savedNow σ (fun (σ1 : SS) (r1 : Int32) => K σ1 r1)
def lb_X6_sheet_55 (K : SS → Int32 → Prop) (L55 : SS → Int32 → Int32 → Int32 → Prop) (σ : SS) (x1 : Int32) (x3 : Int32) (x4 : Int32) : Prop :=
  (((40 * x1) + 40) ≤ x4 → (K σ x3)) ∧ (¬ ((40 * x1) + 40) ≤ x4 → (vp_in x4 160 ∧ (vp_in x4 160 ∧ (vp_in x4 160 ∧ (L55 (sA (sD (sL σ 112 x4.toNatClampNeg 0) 113 x4.toNatClampNeg FP.dconst0) 114 x4.toNatClampNeg (vp_nar .boolean 0)) x1 x3 (x4 + 1))))))
def wp_X6_sheet (σ : SS) (x1 : Int32) (x2 : Int32) (x3 : Int32) (K : SS → Int32 → Prop) : Prop :=
  wp_X6_isSheet σ x1 (fun (σ1 : SS) (r1 : Int32) => (r1 = 0 → (K σ1 (-2))) ∧ (¬ r1 = 0 → (wp_X6_in σ1 x2 0 1 (fun (σ10 : SS) (r10 : Int32) => (r10 = 0 → (K σ10 (-2))) ∧ (¬ r10 = 0 → ((x3 ≤ 40 → ((0 ≤ x3 → (vp_in x1 4 ∧ (vp_in x1 4 ∧ (∃ n, fx4 (lb_X6_sheet_55 K) n (sA (sA σ10 110 x1.toNatClampNeg x2) 111 x1.toNatClampNeg x3) x1 x3 (40 * x1))))) ∧ (¬ 0 ≤ x3 → (wp_X6_meets σ10 5 (fun (σ31 : SS) (r31 : Int32) => K σ31 r31))))) ∧ (¬ x3 ≤ 40 → (K σ10 (-2)))))))))
def wp_X6_lose (σ : SS) (x1 : Int32) (K : SS → Int32 → Prop) : Prop :=
  wp_X6_isSheet σ x1 (fun (σ1 : SS) (r1 : Int32) => (¬ r1 = 0 → (vp_in x1 4 ∧ ((¬ (gA σ1 110 x1.toNatClampNeg) = (-1) → (vp_in x1 4 ∧ (vp_in x1 4 ∧ (K (sA σ1 110 x1.toNatClampNeg (-1)) (gA (sA σ1 110 x1.toNatClampNeg (-1)) 111 x1.toNatClampNeg))))) ∧ ((gA σ1 110 x1.toNatClampNeg) = (-1) → (wp_X6_meets σ1 1 (fun (σ22 : SS) (r22 : Int32) => K σ22 r22)))))) ∧ (r1 = 0 → (K σ1 (-2))))
def wp_X6_hasItem (σ : SS) (x1 : Int32) (x2 : Int32) (K : SS → Int32 → Prop) : Prop :=
  vp_in x1 4 ∧ (wp_X6_in σ x2 0 ((gA σ 111 x1.toNatClampNeg) - 1) (fun (σ10 : SS) (r10 : Int32) => (r10 = 0 ∨ r10 = 1) ∧ K σ10 r10))
def bl_X6_put_61 (K : SS → Int32 → Prop) (σ : SS) (x1 : Int32) (x3 : Int32) (x4 : Int32) (k0 : Int32) : Prop :=
  (k0 ≤ 0 → (vp_in ((40 * x1) + x3) 160 ∧ (vf_n64 (FP.ddiv (FP.i2d x4) 4620693217682128896) ∧ (vp_in ((40 * x1) + x3) 160 ∧ (vp_in ((40 * x1) + x3) 160 ∧ (K (sA (sD (sL σ 112 ((40 * x1) + x3).toNatClampNeg x4.toInt64) 113 ((40 * x1) + x3).toNatClampNeg (FP.ddiv (FP.i2d x4) 4620693217682128896)) 114 ((40 * x1) + x3).toNatClampNeg (vp_nar .boolean 0)) 1)))))) ∧ (¬ k0 ≤ 0 → (wp_X6_meets σ k0 (fun (σ71 : SS) (r71 : Int32) => K σ71 r71)))
def wp_X6_put (σ : SS) (x1 : Int32) (x2 : Int32) (x3 : Int32) (x4 : Int32) (K : SS → Int32 → Prop) : Prop :=
  wp_X6_isSheet σ x1 (fun (σ1 : SS) (r1 : Int32) => (r1 = 0 → (K σ1 (-2))) ∧ (¬ r1 = 0 → (wp_X6_in σ1 x2 0 1 (fun (σ10 : SS) (r10 : Int32) => (¬ r10 = 0 → (vp_in x1 4 ∧ ((¬ (gA σ10 110 x1.toNatClampNeg) = (-1) → (vp_in x1 4 ∧ (((gA σ10 110 x1.toNatClampNeg) = x2 → (wp_X6_hasItem σ10 x1 x3 (fun (σ50 : SS) (r50 : Int32) => (r50 = 0 → (bl_X6_put_61 K σ50 x1 x3 x4 2)) ∧ (¬ r50 = 0 → (bl_X6_put_61 K σ50 x1 x3 x4 0))))) ∧ (¬ (gA σ10 110 x1.toNatClampNeg) = x2 → (bl_X6_put_61 K σ10 x1 x3 x4 3))))) ∧ ((gA σ10 110 x1.toNatClampNeg) = (-1) → (bl_X6_put_61 K σ10 x1 x3 x4 1))))) ∧ (r10 = 0 → (K σ10 (-2)))))))
def wp_X6_itemOf (σ : SS) (x1 : Int32) (x2 : Int32) (K : SS → Int64 → Prop) : Prop :=
  vp_in x1 4 ∧ ((¬ (gA σ 110 x1.toNatClampNeg) = 0 → (vp_in ((40 * x1) + x2) 160 ∧ (((gA σ 114 ((40 * x1) + x2).toNatClampNeg) = 0 → (vp_in ((40 * x1) + x2) 160 ∧ (vf_n64 (FP.dmul 4620693217682128896 (gD σ 113 ((40 * x1) + x2).toNatClampNeg)) ∧ (K σ (FP.d2l (FP.dmul 4620693217682128896 (gD σ 113 ((40 * x1) + x2).toNatClampNeg))))))) ∧ (¬ (gA σ 114 ((40 * x1) + x2).toNatClampNeg) = 0 → (wp_X6_no σ (-1) (fun (σ35 : SS) (r35 : Int64) => K σ35 r35)))))) ∧ ((gA σ 110 x1.toNatClampNeg) = 0 → (vp_in ((40 * x1) + x2) 160 ∧ (K σ (gL σ 112 ((40 * x1) + x2).toNatClampNeg)))))
def bl_X6_get_41 (K : SS → Int64 → Prop) (σ : SS) (x1 : Int32) (x2 : Int32) (k0 : Int32) : Prop :=
  (k0 ≤ 0 → (wp_X6_itemOf σ x1 x2 (fun (σ60 : SS) (r60 : Int64) => K σ60 r60))) ∧ (¬ k0 ≤ 0 → (wp_X6_meets σ k0 (fun (σ48 : SS) (r48 : Int32) => wp_X6_no σ48 r48 (fun (σ51 : SS) (r51 : Int64) => K σ51 r51))))
def wp_X6_get (σ : SS) (x1 : Int32) (x2 : Int32) (K : SS → Int64 → Prop) : Prop :=
  wp_X6_isSheet σ x1 (fun (σ1 : SS) (r1 : Int32) => (¬ r1 = 0 → (vp_in x1 4 ∧ ((¬ (gA σ1 110 x1.toNatClampNeg) = (-1) → (wp_X6_hasItem σ1 x1 x2 (fun (σ30 : SS) (r30 : Int32) => (r30 = 0 → (bl_X6_get_41 K σ30 x1 x2 2)) ∧ (¬ r30 = 0 → (bl_X6_get_41 K σ30 x1 x2 0))))) ∧ ((gA σ1 110 x1.toNatClampNeg) = (-1) → (bl_X6_get_41 K σ1 x1 x2 1))))) ∧ (r1 = 0 → (wp_X6_no σ1 (-2) (fun (σ9 : SS) (r9 : Int64) => K σ9 r9))))
def lb_X6_copy_201 (K : SS → Int32 → Prop) (L201 : SS → Int32 → Int32 → Int32 → Int32 → Prop) (σ : SS) (x3 : Int32) (x4 : Int32) (x5 : Int32) (x6 : Int32) : Prop :=
  (x5 ≤ x6 → (K σ 1)) ∧ (¬ x5 ≤ x6 → (vp_in x6 40 ∧ (vp_in (((40 * x3) + x4) + x6) 160 ∧ (vp_in x6 40 ∧ (vp_in (((40 * x3) + x4) + x6) 160 ∧ (vp_in x6 40 ∧ (vp_in (((40 * x3) + x4) + x6) 160 ∧ (L201 (sA (sD (sL σ 112 (((40 * x3) + x4) + x6).toNatClampNeg (gL σ 115 x6.toNatClampNeg)) 113 (((40 * x3) + x4) + x6).toNatClampNeg (gD σ 116 x6.toNatClampNeg)) 114 (((40 * x3) + x4) + x6).toNatClampNeg (vp_nar .boolean (gA σ 117 x6.toNatClampNeg))) x3 x4 x5 (x6 + 1)))))))))
def lb_X6_copy_122 (K : SS → Int32 → Prop) (L122 : SS → Int32 → Int32 → Int32 → Int32 → Int32 → Int32 → Prop) (σ : SS) (x1 : Int32) (x2 : Int32) (x3 : Int32) (x4 : Int32) (x5 : Int32) (x6 : Int32) : Prop :=
  (x5 ≤ x6 → (∃ n, fx5 (lb_X6_copy_201 K) n σ x3 x4 x5 0)) ∧ (¬ x5 ≤ x6 → (vp_in (((40 * x1) + x2) + x6) 160 ∧ (vp_in x6 40 ∧ (vp_in (((40 * x1) + x2) + x6) 160 ∧ (vp_in x6 40 ∧ (vp_in (((40 * x1) + x2) + x6) 160 ∧ (vp_in x6 40 ∧ (L122 (sA (sD (sL σ 115 x6.toNatClampNeg (gL σ 112 (((40 * x1) + x2) + x6).toNatClampNeg)) 116 x6.toNatClampNeg (gD σ 113 (((40 * x1) + x2) + x6).toNatClampNeg)) 117 x6.toNatClampNeg (vp_nar .boolean (gA σ 114 (((40 * x1) + x2) + x6).toNatClampNeg))) x1 x2 x3 x4 x5 (x6 + 1)))))))))
def wp_X6_copy (σ : SS) (x1 : Int32) (x2 : Int32) (x3 : Int32) (x4 : Int32) (x5 : Int32) (K : SS → Int32 → Prop) : Prop :=
  wp_X6_isSheet σ x1 (fun (σ1 : SS) (r1 : Int32) => (r1 = 0 → (K σ1 (-2))) ∧ (¬ r1 = 0 → (wp_X6_isSheet σ1 x3 (fun (σ8 : SS) (r8 : Int32) => (¬ r8 = 0 → (vp_in x1 4 ∧ (((gA σ8 110 x1.toNatClampNeg) = (-1) → (wp_X6_meets σ8 1 (fun (σ39 : SS) (r39 : Int32) => K σ39 r39))) ∧ (¬ (gA σ8 110 x1.toNatClampNeg) = (-1) → (vp_in x3 4 ∧ ((¬ (gA σ8 110 x3.toNatClampNeg) = (-1) → (vp_in x1 4 ∧ (vp_in x3 4 ∧ (((gA σ8 110 x1.toNatClampNeg) = (gA σ8 110 x3.toNatClampNeg) → ((x2 < 0 → (wp_X6_meets σ8 2 (fun (σ115 : SS) (r115 : Int32) => K σ115 r115))) ∧ (¬ x2 < 0 → ((x4 < 0 → (wp_X6_meets σ8 2 (fun (σ115 : SS) (r115 : Int32) => K σ115 r115))) ∧ (¬ x4 < 0 → ((x5 < 0 → (wp_X6_meets σ8 2 (fun (σ115 : SS) (r115 : Int32) => K σ115 r115))) ∧ (¬ x5 < 0 → (vp_in x1 4 ∧ ((0 < (lg_cmp (x2.toInt64 + x5.toInt64) ((gA σ8 111 x1.toNatClampNeg).toInt64)) → (wp_X6_meets σ8 2 (fun (σ115 : SS) (r115 : Int32) => K σ115 r115))) ∧ (¬ 0 < (lg_cmp (x2.toInt64 + x5.toInt64) ((gA σ8 111 x1.toNatClampNeg).toInt64)) → (vp_in x3 4 ∧ (((lg_cmp (x4.toInt64 + x5.toInt64) ((gA σ8 111 x3.toNatClampNeg).toInt64)) ≤ 0 → (∃ n, fx7 (lb_X6_copy_122 K) n σ8 x1 x2 x3 x4 x5 0)) ∧ (¬ (lg_cmp (x4.toInt64 + x5.toInt64) ((gA σ8 111 x3.toNatClampNeg).toInt64)) ≤ 0 → (wp_X6_meets σ8 2 (fun (σ115 : SS) (r115 : Int32) => K σ115 r115))))))))))))))) ∧ (¬ (gA σ8 110 x1.toNatClampNeg) = (gA σ8 110 x3.toNatClampNeg) → (wp_X6_meets σ8 4 (fun (σ60 : SS) (r60 : Int32) => K σ60 r60))))))) ∧ ((gA σ8 110 x3.toNatClampNeg) = (-1) → (wp_X6_meets σ8 1 (fun (σ39 : SS) (r39 : Int32) => K σ39 r39))))))))) ∧ (r8 = 0 → (K σ8 (-2)))))))
def bl_X6_write_171 (K : SS → Int32 → Prop) (L44 : SS → Int32 → Int32 → Int32 → Prop) (σ : SS) (x1 : Int32) (x2 : Int32) (x3 : Int32) (x5 : Int32) (k0 : Int32) (k1 : Int32) : Prop :=
  vp_in k1 160 ∧ ((x5 = 0 → (L44 (sA σ 114 k1.toNatClampNeg (vp_nar .boolean k0)) x1 (x2 + 0) (x3 + 1))) ∧ (¬ x5 = 0 → (L44 (sA σ 114 k1.toNatClampNeg (vp_nar .boolean k0)) x1 (x2 + 1) (x3 + 1))))
def bl_X6_write_150 (K : SS → Int32 → Prop) (L44 : SS → Int32 → Int32 → Int32 → Prop) (σ : SS) (x1 : Int32) (x2 : Int32) (x3 : Int32) (x5 : Int32) (k0 : UInt64) (k1 : Int32) : Prop :=
  vp_in k1 160 ∧ ((¬ x5 = 0 → (bl_X6_write_171 K L44 (sD σ 113 k1.toNatClampNeg k0) x1 x2 x3 x5 0 ((40 * x1) + x3))) ∧ (x5 = 0 → (bl_X6_write_171 K L44 (sD σ 113 k1.toNatClampNeg k0) x1 x2 x3 x5 1 ((40 * x1) + x3))))
def bl_X6_write_116 (K : SS → Int32 → Prop) (L44 : SS → Int32 → Int32 → Int32 → Prop) (σ : SS) (x1 : Int32) (x2 : Int32) (x3 : Int32) (x4 : Int32) (x5 : Int32) (k0 : Int32) : Prop :=
  (x5 = 0 → (bl_X6_write_150 K L44 σ x1 x2 x3 x5 FP.dconst0 ((40 * x1) + x3))) ∧ (¬ x5 = 0 → (wp_X6_belowBy σ (x4 - 1) (fun (σ141 : SS) (r141 : Int32) => vf_n64 (FP.ddiv (FP.i2d k0) (FP.i2d r141)) ∧ (bl_X6_write_150 K L44 σ141 x1 x2 x3 x5 (FP.ddiv (FP.i2d k0) (FP.i2d r141)) ((40 * x1) + x3)))))
def bl_X6_write_80 (K : SS → Int32 → Prop) (L44 : SS → Int32 → Int32 → Int32 → Prop) (σ : SS) (x1 : Int32) (x2 : Int32) (x3 : Int32) (x4 : Int32) (k0 : Int32) : Prop :=
  (k0 = 0 → (bl_X6_write_116 K L44 σ x1 x2 x3 x4 k0 0)) ∧ (¬ k0 = 0 → (vp_in x4 40 ∧ (wp_X6_belowBy σ (x4 - 1) (fun (σ99 : SS) (r99 : Int32) => wp_X6_aboveBy σ99 (x4 - 1) (fun (σ108 : SS) (r108 : Int32) => bl_X6_write_116 K L44 σ108 x1 x2 x3 x4 k0 (((gA σ 103 x4.toNatClampNeg) * r99) - r108))))))
def lb_X6_write_44 (K : SS → Int32 → Prop) (L44 : SS → Int32 → Int32 → Int32 → Prop) (σ : SS) (x1 : Int32) (x2 : Int32) (x3 : Int32) : Prop :=
  ((gI σ 100 1) ≤ x3 → (K σ x2)) ∧ (¬ (gI σ 100 1) ≤ x3 → (vp_in x1 4 ∧ (((gA σ 111 x1.toNatClampNeg) ≤ x3 → (K σ x2)) ∧ (¬ (gA σ 111 x1.toNatClampNeg) ≤ x3 → (wp_X6_cameOf σ x3 2 (fun (σ65 : SS) (r65 : Int32) => (r65 ≤ 0 → (bl_X6_write_80 K L44 σ65 x1 x2 x3 r65 0)) ∧ (¬ r65 ≤ 0 → (bl_X6_write_80 K L44 σ65 x1 x2 x3 r65 1))))))))
def wp_X6_write (σ : SS) (x1 : Int32) (K : SS → Int32 → Prop) : Prop :=
  wp_X6_isSheet σ x1 (fun (σ1 : SS) (r1 : Int32) => (¬ r1 = 0 → (vp_in x1 4 ∧ (((gA σ1 110 x1.toNatClampNeg) = 1 → (∃ n, fx4 (lb_X6_write_44 K) n σ1 x1 0 0)) ∧ (¬ (gA σ1 110 x1.toNatClampNeg) = 1 → (vp_in x1 4 ∧ ((¬ (gA σ1 110 x1.toNatClampNeg) = (-1) → (wp_X6_meets σ1 3 (fun (σ36 : SS) (r36 : Int32) => K σ36 r36))) ∧ ((gA σ1 110 x1.toNatClampNeg) = (-1) → (wp_X6_meets σ1 1 (fun (σ36 : SS) (r36 : Int32) => K σ36 r36))))))))) ∧ (r1 = 0 → (K σ1 (-2))))
def bl_X6_found_145 (K : SS → Int32 → Prop) (L66 : SS → Int32 → Int32 → Int32 → UInt64 → Int32 → Prop) (σ : SS) (x1 : Int32) (x2 : Int32) (x4 : Int32) (x5 : UInt64) (x7 : Int32) (k0 : Int32) : Prop :=
  (k0 = 0 → (L66 σ x1 x2 (x4 + 0) x5 (x7 + 1))) ∧ (¬ k0 = 0 → (L66 σ x1 x2 (x4 + 1) x5 (x7 + 1)))
def lb_X6_found_66 (K : SS → Int32 → Prop) (L66 : SS → Int32 → Int32 → Int32 → UInt64 → Int32 → Prop) (σ : SS) (x1 : Int32) (x2 : Int32) (x4 : Int32) (x5 : UInt64) (x7 : Int32) : Prop :=
  vp_in x1 4 ∧ ((((40 * x1) + (gA σ 111 x1.toNatClampNeg)) ≤ x7 → (K σ x4)) ∧ (¬ ((40 * x1) + (gA σ 111 x1.toNatClampNeg)) ≤ x7 → ((¬ x2 = 0 → (vp_in x7 160 ∧ ((¬ (gA σ 114 x7.toNatClampNeg) = 0 → (bl_X6_found_145 K L66 σ x1 x2 x4 x5 x7 0)) ∧ ((gA σ 114 x7.toNatClampNeg) = 0 → ((¬ x2 = 1 → (vp_in x7 160 ∧ ((0 ≤ (Op.cmpValue (FP.dcmp (gD σ 113 x7.toNatClampNeg) x5) CmpOp.g) → (bl_X6_found_145 K L66 σ x1 x2 x4 x5 x7 0)) ∧ (¬ 0 ≤ (Op.cmpValue (FP.dcmp (gD σ 113 x7.toNatClampNeg) x5) CmpOp.g) → (bl_X6_found_145 K L66 σ x1 x2 x4 x5 x7 1))))) ∧ (x2 = 1 → (vp_in x7 160 ∧ (((Op.cmpValue (FP.dcmp (gD σ 113 x7.toNatClampNeg) x5) CmpOp.l) ≤ 0 → (bl_X6_found_145 K L66 σ x1 x2 x4 x5 x7 0)) ∧ (¬ (Op.cmpValue (FP.dcmp (gD σ 113 x7.toNatClampNeg) x5) CmpOp.l) ≤ 0 → (bl_X6_found_145 K L66 σ x1 x2 x4 x5 x7 1)))))))))) ∧ (x2 = 0 → (vp_in x7 160 ∧ (bl_X6_found_145 K L66 σ x1 x2 x4 x5 x7 (gA σ 114 x7.toNatClampNeg)))))))
def wp_X6_found (σ : SS) (x1 : Int32) (x2 : Int32) (x3 : Int32) (K : SS → Int32 → Prop) : Prop :=
  wp_X6_isSheet σ x1 (fun (σ1 : SS) (r1 : Int32) => (r1 = 0 → (K σ1 (-2))) ∧ (¬ r1 = 0 → (wp_X6_in σ1 x2 0 2 (fun (σ10 : SS) (r10 : Int32) => (¬ r10 = 0 → (vp_in x1 4 ∧ (((gA σ10 110 x1.toNatClampNeg) = 1 → (vf_n64 (FP.ddiv (FP.i2d x3) 4620693217682128896) ∧ (∃ n, fx6 (lb_X6_found_66 K) n σ10 x1 x2 0 (FP.ddiv (FP.i2d x3) 4620693217682128896) (40 * x1)))) ∧ (¬ (gA σ10 110 x1.toNatClampNeg) = 1 → (vp_in x1 4 ∧ ((¬ (gA σ10 110 x1.toNatClampNeg) = (-1) → (wp_X6_meets σ10 3 (fun (σ45 : SS) (r45 : Int32) => K σ45 r45))) ∧ ((gA σ10 110 x1.toNatClampNeg) = (-1) → (wp_X6_meets σ10 1 (fun (σ45 : SS) (r45 : Int32) => K σ45 r45))))))))) ∧ (r10 = 0 → (K σ10 (-2)))))))
def lb_X6_lostMany_4 (K : SS → Int32 → Prop) (L4 : SS → Int32 → Int32 → Prop) (σ : SS) (x1 : Int32) (x2 : Int32) : Prop :=
  ((gI σ 100 1) ≤ x2 → (K σ x1)) ∧ (¬ (gI σ 100 1) ≤ x2 → (wp_X6_isLost σ x2 (fun (σ15 : SS) (r15 : Int32) => (r15 = 0 → (L4 σ15 (x1 + 0) (x2 + 1))) ∧ (¬ r15 = 0 → (L4 σ15 (x1 + 1) (x2 + 1))))))
def wp_X6_lostMany (σ : SS) (K : SS → Int32 → Prop) : Prop :=
  ∃ n, fx3 (lb_X6_lostMany_4 K) n σ 0 0
def wp_X6_newsNow (σ : SS) (K : SS → Int32 → Prop) : Prop :=
  wp_X6_findsNews σ (fun (σ1 : SS) => K σ1 (gI σ1 100 7))
def lb_X6_overAll_4 (K : SS → Int32 → Prop) (L4 : SS → Int32 → Int32 → Int32 → Prop) (σ : SS) (x1 : Int32) (x2 : Int32) (x3 : Int32) : Prop :=
  ((gI σ 100 12) ≤ x3 → (K σ x2)) ∧ (¬ (gI σ 100 12) ≤ x3 → ((¬ x1 = 4 → ((¬ x1 = 5 → (wp_X6_forGood σ x3 (fun (σ52 : SS) (r52 : Int32) => (¬ r52 = (-1) → (L4 σ52 x1 (x2 + 1) (x3 + 1))) ∧ (r52 = (-1) → (L4 σ52 x1 (x2 + 0) (x3 + 1)))))) ∧ (x1 = 5 → (wp_X6_isKept σ x3 (fun (σ34 : SS) (r34 : Int32) => (r34 = 0 → (L4 σ34 x1 (x2 + 0) (x3 + 1))) ∧ (¬ r34 = 0 → (L4 σ34 x1 (x2 + ((1 : Int32) <<< (x3 &&& 31))) (x3 + 1)))))))) ∧ (x1 = 4 → (wp_X6_infoOf σ x3 4 (fun (σ21 : SS) (r21 : Int32) => L4 σ21 x1 (x2 + r21) (x3 + 1))))))
def wp_X6_overAll (σ : SS) (x1 : Int32) (K : SS → Int32 → Prop) : Prop :=
  ∃ n, fx4 (lb_X6_overAll_4 K) n σ x1 0 0
def wp_X6_count (σ : SS) (x1 : Int32) (K : SS → Int32 → Prop) : Prop :=
  (x1 = 0 → (K σ (gI σ 100 1))) ∧ (x1 = 1 → (wp_X6_lostMany σ (fun (σ58 : SS) (r58 : Int32) => K σ58 r58))) ∧ (x1 = 2 → (wp_X6_newsNow σ (fun (σ63 : SS) (r63 : Int32) => K σ63 r63))) ∧ (x1 = 3 → (K σ (gI σ 100 12))) ∧ (x1 = 4 → (wp_X6_overAll σ x1 (fun (σ74 : SS) (r74 : Int32) => K σ74 r74))) ∧ (x1 = 5 → (wp_X6_overAll σ x1 (fun (σ74 : SS) (r74 : Int32) => K σ74 r74))) ∧ (x1 = 6 → (wp_X6_newsNow σ (fun (σ79 : SS) (r79 : Int32) => (¬ r79 = 0 → (vp_in ((gI σ79 100 7) - 1) 40 ∧ (K σ79 (gA σ79 103 ((gI σ79 100 7) - 1).toNatClampNeg)))) ∧ (r79 = 0 → (K σ79 (-1)))))) ∧ (x1 = 7 → (wp_X6_overAll σ x1 (fun (σ74 : SS) (r74 : Int32) => K σ74 r74))) ∧ (x1 = 8 → (K σ (gI σ 100 27))) ∧ (¬ x1 = 0 → ¬ x1 = 1 → ¬ x1 = 2 → ¬ x1 = 3 → ¬ x1 = 4 → ¬ x1 = 5 → ¬ x1 = 6 → ¬ x1 = 7 → ¬ x1 = 8 → (K σ (-2)))
def lb_X6_watcherDigest_128 (K : SS → Int64 → Prop) (L128 : SS → Int32 → Int64 → Int32 → Prop) (σ : SS) (x3 : Int32) (x4 : Int64) (x7 : Int32) : Prop :=
  wp_X6_newsNow σ (fun (σ131 : SS) (r131 : Int32) => (r131 ≤ x7 → (K σ131 x4)) ∧ (¬ r131 ≤ x7 → (wp_X6_limitOf σ131 x3 x7 (fun (σ147 : SS) (r147 : Int32) => L128 σ147 x3 ((31 * x4) + r147.toInt64) (x7 + 1)))))
def lb_X6_watcherDigest_88 (K : SS → Int64 → Prop) (L78 : SS → Int32 → Int64 → Int32 → Int32 → Prop) (L88 : SS → Int32 → Int64 → Int32 → Int32 → Int32 → Prop) (σ : SS) (x3 : Int32) (x4 : Int64) (x6 : Int32) (x7 : Int32) (x8 : Int32) : Prop :=
  (3 ≤ x8 → (L78 σ x3 x4 x6 (x7 + 1))) ∧ (¬ 3 ≤ x8 → (wp_X6_ledgerOf σ x3 x7 x8 (fun (σ106 : SS) (r106 : Int32) => L88 σ106 x3 ((31 * x4) + r106.toInt64) x6 x7 (x8 + 1))))
def lb_X6_watcherDigest_78 (K : SS → Int64 → Prop) (L78 : SS → Int32 → Int64 → Int32 → Int32 → Prop) (σ : SS) (x3 : Int32) (x4 : Int64) (x6 : Int32) (x7 : Int32) : Prop :=
  (x6 ≤ x7 → (∃ n, fx4 (lb_X6_watcherDigest_128 K) n σ x3 x4 0)) ∧ (¬ x6 ≤ x7 → (∃ n, fx6 (lb_X6_watcherDigest_88 K L78) n σ x3 x4 x6 x7 0))
def bl_X6_watcherDigest_36 (K : SS → Int64 → Prop) (σ : SS) (x3 : Int32) (x4 : Int64) : Prop :=
  wp_X6_noticedOf σ x3 (fun (σ44 : SS) (r44 : Int32) => wp_X6_greatest σ44 x3 x3 (fun (σ60 : SS) (r60 : Int32) => wp_X6_infoOf σ60 x3 4 (fun (σ70 : SS) (r70 : Int32) => ∃ n, fx5 (lb_X6_watcherDigest_78 K) n σ70 x3 ((31 * ((31 * x4) + r44.toInt64)) + r60.toInt64) r70 0)))
def lb_X6_watcherDigest_6 (K : SS → Int64 → Prop) (L6 : SS → Int32 → Int64 → Int32 → Prop) (σ : SS) (x3 : Int32) (x4 : Int64) (x6 : Int32) : Prop :=
  (10 ≤ x6 → (bl_X6_watcherDigest_36 K σ x3 x4)) ∧ (¬ 10 ≤ x6 → (wp_X6_infoOf σ x3 x6 (fun (σ23 : SS) (r23 : Int32) => L6 σ23 x3 ((31 * x4) + r23.toInt64) (x6 + 1))))
def wp_X6_watcherDigest (σ : SS) (x1 : Int64) (x3 : Int32) (K : SS → Int64 → Prop) : Prop :=
  ∃ n, fx4 (lb_X6_watcherDigest_6 K) n σ x3 x1 0
def bl_X6_newsDigest_98 (K : SS → Int64 → Prop) (L58 : SS → Int64 → Int32 → Prop) (σ : SS) (x3 : Int64) (x5 : Int32) : Prop :=
  wp_X6_aboveBy σ x5 (fun (σ106 : SS) (r106 : Int32) => wp_X6_belowBy σ106 x5 (fun (σ113 : SS) (r113 : Int32) => wp_X6_partOf σ113 r106.toInt64 r113.toInt64 0 (fun (σ118 : SS) (r118 : Int64) => wp_X6_aboveBy σ118 x5 (fun (σ131 : SS) (r131 : Int32) => wp_X6_belowBy σ131 x5 (fun (σ138 : SS) (r138 : Int32) => wp_X6_partOf σ138 r131.toInt64 r138.toInt64 1 (fun (σ143 : SS) (r143 : Int64) => L58 σ143 ((31 * ((31 * x3) + r118)) + r143) (x5 + 1)))))))
def lb_X6_newsDigest_70 (K : SS → Int64 → Prop) (L58 : SS → Int64 → Int32 → Prop) (L70 : SS → Int64 → Int32 → Int32 → Prop) (σ : SS) (x3 : Int64) (x5 : Int32) (x6 : Int32) : Prop :=
  (3 ≤ x6 → (bl_X6_newsDigest_98 K L58 σ x3 x5)) ∧ (¬ 3 ≤ x6 → (wp_X6_newsOf σ x5 x6 (fun (σ86 : SS) (r86 : Int32) => L70 σ86 ((31 * x3) + r86.toInt64) x5 (x6 + 1))))
def lb_X6_newsDigest_58 (K : SS → Int64 → Prop) (L58 : SS → Int64 → Int32 → Prop) (σ : SS) (x3 : Int64) (x5 : Int32) : Prop :=
  ((gI σ 100 7) ≤ x5 → (K σ x3)) ∧ (¬ (gI σ 100 7) ≤ x5 → (∃ n, fx4 (lb_X6_newsDigest_70 K L58) n σ x3 x5 0))
def lb_X6_newsDigest_17 (K : SS → Int64 → Prop) (L5 : SS → Int64 → Int32 → Prop) (L17 : SS → Int64 → Int32 → Int32 → Prop) (σ : SS) (x3 : Int64) (x5 : Int32) (x6 : Int32) : Prop :=
  (3 ≤ x6 → (L5 σ x3 (x5 + 1))) ∧ (¬ 3 ≤ x6 → (wp_X6_cameOf σ x5 x6 (fun (σ33 : SS) (r33 : Int32) => L17 σ33 ((31 * x3) + r33.toInt64) x5 (x6 + 1))))
def lb_X6_newsDigest_5 (K : SS → Int64 → Prop) (L5 : SS → Int64 → Int32 → Prop) (σ : SS) (x3 : Int64) (x5 : Int32) : Prop :=
  ((gI σ 100 1) ≤ x5 → (wp_X6_findsNews σ (fun (σ52 : SS) => ∃ n, fx3 (lb_X6_newsDigest_58 K) n σ52 x3 0))) ∧ (¬ (gI σ 100 1) ≤ x5 → (∃ n, fx4 (lb_X6_newsDigest_17 K L5) n σ x3 x5 0))
def wp_X6_newsDigest (σ : SS) (x1 : Int64) (K : SS → Int64 → Prop) : Prop :=
  ∃ n, fx3 (lb_X6_newsDigest_5 K) n σ x1 0
def bl_X6_digest_155 (K : SS → Int64 → Prop) (σ : SS) (x1 : Int64) : Prop :=
  wp_X6_sharedNow σ (fun (σ161 : SS) (r161 : Int32) => wp_X6_savedNow σ161 (fun (σ173 : SS) (r173 : Int32) => K σ173 ((31 * ((31 * x1) + r161.toInt64)) + r173.toInt64)))
def lb_X6_digest_116 (K : SS → Int64 → Prop) (L116 : SS → Int64 → Int32 → Prop) (σ : SS) (x1 : Int64) (x3 : Int32) : Prop :=
  (3 ≤ x3 → (bl_X6_digest_155 K σ x1)) ∧ (¬ 3 ≤ x3 → (wp_X6_leastOf σ x3 0 (fun (σ129 : SS) (r129 : Int32) => wp_X6_leastOf σ129 x3 2 (fun (σ143 : SS) (r143 : Int32) => L116 σ143 ((31 * ((31 * x1) + r129.toInt64)) + r143.toInt64) (x3 + 1)))))
def lb_X6_digest_62 (K : SS → Int64 → Prop) (L62 : SS → Int64 → Int32 → Prop) (σ : SS) (x1 : Int64) (x3 : Int32) : Prop :=
  (1000 < x3 → (∃ n, fx3 (lb_X6_digest_116 K) n σ x1 0)) ∧ (¬ 1000 < x3 → (wp_X6_doubtsAt σ x3 (fun (σ76 : SS) (r76 : Int32) => wp_X6_scoreOf σ76 x3 0 (fun (σ90 : SS) (r90 : Int64) => wp_X6_scoreOf σ90 x3 1 (fun (σ103 : SS) (r103 : Int64) => L62 σ103 ((31 * ((31 * ((31 * x1) + r76.toInt64)) + r90)) + r103) (x3 + 50))))))
def lb_X6_digest_39 (K : SS → Int64 → Prop) (L39 : SS → Int64 → Int32 → Prop) (σ : SS) (x1 : Int64) (x3 : Int32) : Prop :=
  ((gI σ 100 12) ≤ x3 → (∃ n, fx3 (lb_X6_digest_62 K) n σ x1 0)) ∧ (¬ (gI σ 100 12) ≤ x3 → (wp_X6_watcherDigest σ x1 x3 (fun (σ50 : SS) (r50 : Int64) => L39 σ50 r50 (x3 + 1))))
def lb_X6_digest_6 (K : SS → Int64 → Prop) (L6 : SS → Int64 → Int32 → Prop) (σ : SS) (x1 : Int64) (x3 : Int32) : Prop :=
  (8 ≤ x3 → (wp_X6_newsDigest σ x1 (fun (σ33 : SS) (r33 : Int64) => ∃ n, fx3 (lb_X6_digest_39 K) n σ33 r33 0))) ∧ (¬ 8 ≤ x3 → (wp_X6_count σ x3 (fun (σ19 : SS) (r19 : Int32) => L6 σ19 ((31 * x1) + r19.toInt64) (x3 + 1))))
def wp_X6_digest (σ : SS) (K : SS → Int64 → Prop) : Prop :=
  ∃ n, fx3 (lb_X6_digest_6 K) n σ 17 0
