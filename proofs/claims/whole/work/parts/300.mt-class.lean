theorem hd_X0_expectNext : yX0_expectNext.cls = RX0 ∧ yX0_expectNext.cls ≠ "java/lang/invoke/MethodHandle" ∧ yX0_expectNext.cls ≠ "java/lang/invoke/VarHandle" ∧ (parseMethodDescriptor yX0_expectNext.desc).map (fun d => d.parameters.length) = some 0 := by decide +kernel
set_option maxHeartbeats 4000000 in
set_option maxRecDepth 100000 in
theorem mt_X0_expectNext (l : Launch) {Z : ZW} (hZ : isC Z) (σ : SS) (sz : Nat) {p0 : Nat} (hk0 : kd p0 = 0) (K : SS → Prop) (h : wp_X0_expectNext σ p0 K) : mtZ l yX0_expectNext wsX0_expectNext (rm9 1 21) Z [.ref (zq Z p0)] σ sz (qcV Z K sz) := by
  refine Met.ofW (cc := cX0_expectNext) (maxL := 6) (ret := none) (by decide) rfl ?_
  intro p e s m args below meth c s₁ B hml hv
  obtain ⟨hargs, hsz, hP, hE1, hE2, hE3⟩ := hv
  subst hsz
  have hE : envZ Z s := ⟨hE1, hE2, hE3⟩
  have hx := B.exec
  have hb := B.bytes
  have hr := B.returns
  have hlocks := B.notSynchronized
  have hts := atoms_spec (ws := wsX0_expectNext) B.pre
  have hown : s.vm.findClass RX0 = some m.cls := findClass_of_methodNamed B.named
  have hS : SZ Z s s.heap [] := va_S.rf
  obtain ⟨ls, hef, hl⟩ := z_entry m hargs (n := 6) (Nat.le_of_ble_eq_true rfl)
  rw [hef]
  have hl : lv_has ls 6 [(0, .ref (zq Z p0))] := hl
  have in0 : ∀ w ∈ u_ws RX0 TX0 10, w ∈ wsX0_expectNext := by decide +kernel
  have cdmin := hts (.code Lib.Math.min.name Lib.Math.min.code 2 (some .int)) (by decide +kernel)
  have inM := hts (.initialized "java/lang/Math") (by decide +kernel)
  have lk18 := hts (.fieldLink RX0 18 "BeatDoubts$Arrivals" "beatOfNews" "[I") (by decide +kernel)
  have lk21 := hts (.fieldLink RX0 21 "BeatDoubts$Arrivals" "timeOfNews" "[I") (by decide +kernel)
  have lk24 := hts (.fieldLink RX0 24 "BeatDoubts$Arrivals" "aboveBy" "[I") (by decide +kernel)
  have lk27 := hts (.fieldLink RX0 27 "BeatDoubts$Arrivals" "belowBy" "[I") (by decide +kernel)
  have lk30 := hts (.fieldLink RX0 30 "BeatDoubts$Arrivals" "wholeBy" "[I") (by decide +kernel)
  have lk33 := hts (.fieldLink RX0 33 "BeatDoubts$Arrivals" "period" "I") (by decide +kernel)
  have lk37 := hts (.fieldLink RX0 37 "BeatDoubts$Arrivals" "window" "I") (by decide +kernel)
  have lk40 := hts (.constant RX0 40 (1000000)) (by decide +kernel)
  have lk48 := hts (.fieldLink RX0 48 "BeatDoubts$Arrivals" "newsCount" "I") (by decide +kernel)
  have lk51 := hts (.methodLink RX0 51 Lib.Math.min.name) (by decide +kernel)
  have stmin := hts (.static Lib.Math.min.name) (by decide +kernel)
  have B4 : ∀ (n : Nat) (σ : SS) (x1 : Int32) (x2 : Int32) (H : Heap) (locs : List Loc) (ls : Array Slot), fx3 (lb_X0_expectNext_4 K p0) n σ x1 x2 → PZ Z σ H → SZ Z s H locs → lv_has ls 6 [(0, .ref (zq Z p0)), (1, .int x1), (2, .int x2)] → W p l e (headSpec wsX0_expectNext (rm9 1 21)).room s m args below meth c H locs 0 0 (MQ below (qcV Z K s.heap.size) args s 0 0 (aZ Z s.heap.size)) (F0 m 4 ls []) := by
    intro n4
    induction n4 with
    | zero => intro σ x1 x2 H locs ls h; exact h.elim
    | succ n4 ih4 =>
      have B65 : ∀ (σ : SS) (x1 : Int32) (x2 : Int32) (H : Heap) (locs : List Loc) (ls : Array Slot), bl_X0_expectNext_65 K (fx3 (lb_X0_expectNext_4 K p0) n4) p0 σ x1 x2 → PZ Z σ H → SZ Z s H locs → lv_has ls 6 [(0, .ref (zq Z p0)), (1, .int x1), (2, .int x2)] → W p l e (headSpec wsX0_expectNext (rm9 1 21)).room s m args below meth c H locs 0 0 (MQ below (qcV Z K s.heap.size) args s 0 0 (aZ Z s.heap.size)) (F0 m 65 ls []) := by
        intro σ x1 x2 H locs ls h hP hS hl
        unfold bl_X0_expectNext_65 at h
        refine lv_iload_n hx hb dX0_expectNext_65 rfl (lv_at hl 2 rfl) ?_
        refine lv_iconst (v := 1) hx hb dX0_expectNext_66 (by decide) ?_
        refine lv_iadd hx hb dX0_expectNext_67 ?_
        refine lv_aload_n hx hb dX0_expectNext_68 rfl (lv_at hl 0 rfl) ?_
        refine fg_0_9 hZ hx hb hts in0 hown hE hP hk0 lk37 dX0_expectNext_69 ?_
        refine va_mmin hx hb (hml.trans hl.1.symm) hown lk51 stmin inM cdmin (Nat.le_of_ble_eq_true rfl) (Nat.le_of_ble_eq_true rfl) (Nat.zero_le _) (Nat.zero_le _) dX0_expectNext_72 ?_
        refine lv_istore (lv' := [(4, .int (if (gI σ p0 9) < (x2 + 1) then (gI σ p0 9) else (x2 + 1))), (0, .ref (zq Z p0)), (1, .int x1), (2, .int x2)]) hx hb dX0_expectNext_75 hl (by decide) rfl (fun ls hl => ?_)
        refine lv_iload_n hx hb dX0_expectNext_77 rfl (lv_at hl 2 rfl) ?_
        refine lv_iload hx hb dX0_expectNext_78 (lv_at hl 0 rfl) ?_
        refine lv_aload_n hx hb dX0_expectNext_80 rfl (lv_at hl 1 rfl) ?_
        refine fg_0_2 hZ hx hb hts in0 hown hE hP hk0 lk18 dX0_expectNext_81 ?_
        refine lv_iload_n hx hb dX0_expectNext_84 rfl (lv_at hl 3 rfl) ?_
        obtain ⟨hin, h⟩ := h
        refine al_10 hZ hx hb hE hP (kr_0_2 hk0) hin dX0_expectNext_85 ?_
        refine lv_iconst (v := 1) hx hb dX0_expectNext_86 (by decide) ?_
        refine lv_iadd hx hb dX0_expectNext_87 ?_
        refine lv_imul hx hb dX0_expectNext_88 ?_
        refine lv_aload_n hx hb dX0_expectNext_89 rfl (lv_at hl 1 rfl) ?_
        refine fg_0_8 hZ hx hb hts in0 hown hE hP hk0 lk33 dX0_expectNext_90 ?_
        refine lv_imul hx hb dX0_expectNext_93 ?_
        refine lv_iadd hx hb dX0_expectNext_94 ?_
        refine lv_istore (lv' := [(5, .int (x1 + (((if (gI σ p0 9) < (x2 + 1) then (gI σ p0 9) else (x2 + 1)) * ((gA σ (p0 + 3) x2.toNatClampNeg) + 1)) * (gI σ p0 8)))), (4, .int (if (gI σ p0 9) < (x2 + 1) then (gI σ p0 9) else (x2 + 1))), (0, .ref (zq Z p0)), (1, .int x1), (2, .int x2)]) hx hb dX0_expectNext_95 hl (by decide) rfl (fun ls hl => ?_)
        refine lv_aload_n hx hb dX0_expectNext_97 rfl (lv_at hl 2 rfl) ?_
        refine fg_0_4 hZ hx hb hts in0 hown hE hP hk0 lk24 dX0_expectNext_98 ?_
        refine lv_iload_n hx hb dX0_expectNext_101 rfl (lv_at hl 4 rfl) ?_
        refine lv_iload hx hb dX0_expectNext_102 (lv_at hl 0 rfl) ?_
        obtain ⟨hin, h⟩ := h
        refine as_10 hZ hx hb hE hP hS (kr_0_4 hk0) hin dX0_expectNext_104 (fun H locs hP hS => ?_)
        refine lv_aload_n hx hb dX0_expectNext_105 rfl (lv_at hl 2 rfl) ?_
        refine fg_0_5 hZ hx hb hts in0 hown hE hP hk0 lk27 dX0_expectNext_106 ?_
        refine lv_iload_n hx hb dX0_expectNext_109 rfl (lv_at hl 4 rfl) ?_
        refine lv_iload hx hb dX0_expectNext_110 (lv_at hl 1 rfl) ?_
        obtain ⟨hin, h⟩ := h
        refine as_10 hZ hx hb hE hP hS (kr_0_5 hk0) hin dX0_expectNext_112 (fun H locs hP hS => ?_)
        refine lv_aload_n hx hb dX0_expectNext_113 rfl (lv_at hl 2 rfl) ?_
        refine fg_0_6 hZ hx hb hts in0 hown hE hP hk0 lk30 dX0_expectNext_114 ?_
        refine lv_iload_n hx hb dX0_expectNext_117 rfl (lv_at hl 4 rfl) ?_
        refine lv_iload hx hb dX0_expectNext_118 (lv_at hl 1 rfl) ?_
        refine lv_iconst (v := 1) hx hb dX0_expectNext_120 (by decide) ?_
        refine lv_icmp_ge (tgt := 129) hx hb dX0_expectNext_121 (by decide) (fun hc => ?_) (fun hc => ?_)
        · have h := h.1 hc
          refine lv_iload hx hb dX0_expectNext_129 (lv_at hl 0 rfl) ?_
          refine lv_iload hx hb dX0_expectNext_131 (lv_at hl 1 rfl) ?_
          refine lv_iadd hx hb dX0_expectNext_133 ?_
          refine lv_iconst (v := 1) hx hb dX0_expectNext_134 (by decide) ?_
          refine lv_isub hx hb dX0_expectNext_135 ?_
          refine lv_iload hx hb dX0_expectNext_136 (lv_at hl 1 rfl) ?_
          obtain ⟨hne, h⟩ := h
          refine lv_idiv hx hb dX0_expectNext_138 hne ?_
          obtain ⟨hin, h⟩ := h
          refine as_10 hZ hx hb hE hP hS (kr_0_6 hk0) hin dX0_expectNext_139 (fun H locs hP hS => ?_)
          refine lv_iinc (v := (x2 + 1)) (lv' := [(2, .int (x2 + 1)), (5, .int (x1 + (((if (gI σ p0 9) < (x2 + 1) then (gI σ p0 9) else (x2 + 1)) * ((gA σ (p0 + 3) x2.toNatClampNeg) + 1)) * (gI σ p0 8)))), (4, .int (if (gI σ p0 9) < (x2 + 1) then (gI σ p0 9) else (x2 + 1))), (0, .ref (zq Z p0)), (1, .int x1)]) hx hb dX0_expectNext_140 hl (k := 4) rfl rfl (by decide) rfl (fun ls hl => ?_)
          refine lv_goto (tgt := 4) hx hb dX0_expectNext_143 (by decide) ?_
          exact ih4 (sA (sA (sA σ (p0 + 5) x2.toNatClampNeg (x1 + (((if (gI σ p0 9) < (x2 + 1) then (gI σ p0 9) else (x2 + 1)) * ((gA σ (p0 + 3) x2.toNatClampNeg) + 1)) * (gI σ p0 8)))) (p0 + 6) x2.toNatClampNeg (if (gI σ p0 9) < (x2 + 1) then (gI σ p0 9) else (x2 + 1))) (p0 + 7) x2.toNatClampNeg ((((x1 + (((if (gI σ p0 9) < (x2 + 1) then (gI σ p0 9) else (x2 + 1)) * ((gA σ (p0 + 3) x2.toNatClampNeg) + 1)) * (gI σ p0 8))) + (if (gI σ p0 9) < (x2 + 1) then (gI σ p0 9) else (x2 + 1))) - 1) / (if (gI σ p0 9) < (x2 + 1) then (gI σ p0 9) else (x2 + 1)))) x1 (x2 + 1) _ _ _ h hP hS (lv_sub hl [3, 4, 0] rfl)
        · have h := h.2 hc
          refine lv_ldc (v := 1000000) hx hb hown lk40 dX0_expectNext_124 ?_
          refine lv_goto (tgt := 139) hx hb dX0_expectNext_126 (by decide) ?_
          obtain ⟨hin, h⟩ := h
          refine as_10 hZ hx hb hE hP hS (kr_0_6 hk0) hin dX0_expectNext_139 (fun H locs hP hS => ?_)
          refine lv_iinc (v := (x2 + 1)) (lv' := [(2, .int (x2 + 1)), (5, .int (x1 + (((if (gI σ p0 9) < (x2 + 1) then (gI σ p0 9) else (x2 + 1)) * ((gA σ (p0 + 3) x2.toNatClampNeg) + 1)) * (gI σ p0 8)))), (4, .int (if (gI σ p0 9) < (x2 + 1) then (gI σ p0 9) else (x2 + 1))), (0, .ref (zq Z p0)), (1, .int x1)]) hx hb dX0_expectNext_140 hl (k := 4) rfl rfl (by decide) rfl (fun ls hl => ?_)
          refine lv_goto (tgt := 4) hx hb dX0_expectNext_143 (by decide) ?_
          exact ih4 (sA (sA (sA σ (p0 + 5) x2.toNatClampNeg (x1 + (((if (gI σ p0 9) < (x2 + 1) then (gI σ p0 9) else (x2 + 1)) * ((gA σ (p0 + 3) x2.toNatClampNeg) + 1)) * (gI σ p0 8)))) (p0 + 6) x2.toNatClampNeg (if (gI σ p0 9) < (x2 + 1) then (gI σ p0 9) else (x2 + 1))) (p0 + 7) x2.toNatClampNeg 1000000) x1 (x2 + 1) _ _ _ h hP hS (lv_sub hl [3, 4, 0] rfl)
      intro σ x1 x2 H locs ls h hP hS hl
      have h : lb_X0_expectNext_4 K p0 (fx3 (lb_X0_expectNext_4 K p0) n4) σ x1 x2 := h
      unfold lb_X0_expectNext_4 at h
      refine lv_iload_n hx hb dX0_expectNext_4 rfl (lv_at hl 2 rfl) ?_
      refine lv_aload_n hx hb dX0_expectNext_5 rfl (lv_at hl 0 rfl) ?_
      refine fg_0_7 hZ hx hb hts in0 hown hE hP hk0 lk48 dX0_expectNext_6 ?_
      refine lv_icmp_ge (tgt := 146) hx hb dX0_expectNext_9 (by decide) (fun hc => ?_) (fun hc => ?_)
      · have h := h.1 hc
        exact zr_V hx hb hr hlocks hP hS h dX0_expectNext_146
      · have h := h.2 hc
        refine lv_iload_n hx hb dX0_expectNext_12 rfl (lv_at hl 1 rfl) ?_
        refine lv_aload_n hx hb dX0_expectNext_13 rfl (lv_at hl 0 rfl) ?_
        refine fg_0_3 hZ hx hb hts in0 hown hE hP hk0 lk21 dX0_expectNext_14 ?_
        refine lv_iload_n hx hb dX0_expectNext_17 rfl (lv_at hl 2 rfl) ?_
        obtain ⟨hin, h⟩ := h
        refine al_10 hZ hx hb hE hP (kr_0_3 hk0) hin dX0_expectNext_18 ?_
        refine lv_aload_n hx hb dX0_expectNext_19 rfl (lv_at hl 0 rfl) ?_
        refine fg_0_2 hZ hx hb hts in0 hown hE hP hk0 lk18 dX0_expectNext_20 ?_
        refine lv_iload_n hx hb dX0_expectNext_23 rfl (lv_at hl 2 rfl) ?_
        obtain ⟨hin, h⟩ := h
        refine al_10 hZ hx hb hE hP (kr_0_2 hk0) hin dX0_expectNext_24 ?_
        refine lv_aload_n hx hb dX0_expectNext_25 rfl (lv_at hl 0 rfl) ?_
        refine fg_0_8 hZ hx hb hts in0 hown hE hP hk0 lk33 dX0_expectNext_26 ?_
        refine lv_imul hx hb dX0_expectNext_29 ?_
        refine lv_isub hx hb dX0_expectNext_30 ?_
        refine lv_iadd hx hb dX0_expectNext_31 ?_
        refine lv_istore_n (lv' := [(1, .int (x1 + ((gA σ (p0 + 4) x2.toNatClampNeg) - ((gA σ (p0 + 3) x2.toNatClampNeg) * (gI σ p0 8))))), (0, .ref (zq Z p0)), (2, .int x2)]) hx hb dX0_expectNext_32 rfl hl (by decide) rfl (fun ls hl => ?_)
        refine lv_iload_n hx hb dX0_expectNext_33 rfl (lv_at hl 2 rfl) ?_
        refine lv_aload_n hx hb dX0_expectNext_34 rfl (lv_at hl 1 rfl) ?_
        refine fg_0_9 hZ hx hb hts in0 hown hE hP hk0 lk37 dX0_expectNext_35 ?_
        refine lv_isub hx hb dX0_expectNext_38 ?_
        refine lv_istore_n (lv' := [(3, .int (x2 - (gI σ p0 9))), (1, .int (x1 + ((gA σ (p0 + 4) x2.toNatClampNeg) - ((gA σ (p0 + 3) x2.toNatClampNeg) * (gI σ p0 8))))), (0, .ref (zq Z p0)), (2, .int x2)]) hx hb dX0_expectNext_39 rfl hl (by decide) rfl (fun ls hl => ?_)
        refine lv_iload_n hx hb dX0_expectNext_40 rfl (lv_at hl 0 rfl) ?_
        refine lv_if_lt (tgt := 65) hx hb dX0_expectNext_41 (by decide) (fun hc => ?_) (fun hc => ?_)
        · have h := h.1 hc
          exact B65 σ (x1 + ((gA σ (p0 + 4) x2.toNatClampNeg) - ((gA σ (p0 + 3) x2.toNatClampNeg) * (gI σ p0 8)))) x2 _ _ _ h hP hS (lv_sub hl [2, 1, 3] rfl)
        · have h := h.2 hc
          refine lv_iload_n hx hb dX0_expectNext_44 rfl (lv_at hl 1 rfl) ?_
          refine lv_aload_n hx hb dX0_expectNext_45 rfl (lv_at hl 2 rfl) ?_
          refine fg_0_3 hZ hx hb hts in0 hown hE hP hk0 lk21 dX0_expectNext_46 ?_
          refine lv_iload_n hx hb dX0_expectNext_49 rfl (lv_at hl 0 rfl) ?_
          obtain ⟨hin, h⟩ := h
          refine al_10 hZ hx hb hE hP (kr_0_3 hk0) hin dX0_expectNext_50 ?_
          refine lv_aload_n hx hb dX0_expectNext_51 rfl (lv_at hl 2 rfl) ?_
          refine fg_0_2 hZ hx hb hts in0 hown hE hP hk0 lk18 dX0_expectNext_52 ?_
          refine lv_iload_n hx hb dX0_expectNext_55 rfl (lv_at hl 0 rfl) ?_
          obtain ⟨hin, h⟩ := h
          refine al_10 hZ hx hb hE hP (kr_0_2 hk0) hin dX0_expectNext_56 ?_
          refine lv_aload_n hx hb dX0_expectNext_57 rfl (lv_at hl 2 rfl) ?_
          refine fg_0_8 hZ hx hb hts in0 hown hE hP hk0 lk33 dX0_expectNext_58 ?_
          refine lv_imul hx hb dX0_expectNext_61 ?_
          refine lv_isub hx hb dX0_expectNext_62 ?_
          refine lv_isub hx hb dX0_expectNext_63 ?_
          refine lv_istore_n (lv' := [(1, .int ((x1 + ((gA σ (p0 + 4) x2.toNatClampNeg) - ((gA σ (p0 + 3) x2.toNatClampNeg) * (gI σ p0 8)))) - ((gA σ (p0 + 4) (x2 - (gI σ p0 9)).toNatClampNeg) - ((gA σ (p0 + 3) (x2 - (gI σ p0 9)).toNatClampNeg) * (gI σ p0 8))))), (3, .int (x2 - (gI σ p0 9))), (0, .ref (zq Z p0)), (2, .int x2)]) hx hb dX0_expectNext_64 rfl hl (by decide) rfl (fun ls hl => ?_)
          exact B65 σ ((x1 + ((gA σ (p0 + 4) x2.toNatClampNeg) - ((gA σ (p0 + 3) x2.toNatClampNeg) * (gI σ p0 8)))) - ((gA σ (p0 + 4) (x2 - (gI σ p0 9)).toNatClampNeg) - ((gA σ (p0 + 3) (x2 - (gI σ p0 9)).toNatClampNeg) * (gI σ p0 8)))) x2 _ _ _ h hP hS (lv_sub hl [2, 0, 3] rfl)
  unfold wp_X0_expectNext at h
  refine lv_iconst (v := 0) hx hb dX0_expectNext_0 (by decide) ?_
  refine lv_istore_n (lv' := [(1, .int 0), (0, .ref (zq Z p0))]) hx hb dX0_expectNext_1 rfl hl (by decide) rfl (fun ls hl => ?_)
  refine lv_iconst (v := 0) hx hb dX0_expectNext_2 (by decide) ?_
  refine lv_istore_n (lv' := [(2, .int 0), (1, .int 0), (0, .ref (zq Z p0))]) hx hb dX0_expectNext_3 rfl hl (by decide) rfl (fun ls hl => ?_)
  obtain ⟨n, h⟩ := h
  exact B4 n σ 0 0 _ _ _ h hP hS (lv_sub hl [2, 1, 0] rfl)
theorem hd_X0_numberNews : yX0_numberNews.cls = RX0 ∧ yX0_numberNews.cls ≠ "java/lang/invoke/MethodHandle" ∧ yX0_numberNews.cls ≠ "java/lang/invoke/VarHandle" ∧ (parseMethodDescriptor yX0_numberNews.desc).map (fun d => d.parameters.length) = some 1 := by decide +kernel
set_option maxHeartbeats 4000000 in
set_option maxRecDepth 100000 in
theorem mt_X0_numberNews (l : Launch) {Z : ZW} (hZ : isC Z) (σ : SS) (sz : Nat) {p0 : Nat} (hk0 : kd p0 = 0) (x1 : Int32) (K : SS → Prop) (h : wp_X0_numberNews σ p0 x1 K) : mtZ l yX0_numberNews wsX0_numberNews (rm9 0 0) Z [.ref (zq Z p0), .int x1] σ sz (qcV Z K sz) := by
  refine Met.ofW (cc := cX0_numberNews) (maxL := 3) (ret := none) (by decide) rfl ?_
  intro p e s m args below meth c s₁ B hml hv
  obtain ⟨hargs, hsz, hP, hE1, hE2, hE3⟩ := hv
  subst hsz
  have hE : envZ Z s := ⟨hE1, hE2, hE3⟩
  have hx := B.exec
  have hb := B.bytes
  have hr := B.returns
  have hlocks := B.notSynchronized
  have hts := atoms_spec (ws := wsX0_numberNews) B.pre
  have hown : s.vm.findClass RX0 = some m.cls := findClass_of_methodNamed B.named
  have hS : SZ Z s s.heap [] := va_S.rf
  obtain ⟨ls, hef, hl⟩ := z_entry m hargs (n := 3) (Nat.le_of_ble_eq_true rfl)
  rw [hef]
  have hl : lv_has ls 3 [(0, .ref (zq Z p0)), (1, .int x1)] := hl
  have in0 : ∀ w ∈ u_ws RX0 TX0 10, w ∈ wsX0_numberNews := by decide +kernel
  have lk15 := hts (.fieldLink RX0 15 "BeatDoubts$Arrivals" "newsOfBeat" "[I") (by decide +kernel)
  have lk18 := hts (.fieldLink RX0 18 "BeatDoubts$Arrivals" "beatOfNews" "[I") (by decide +kernel)
  have lk21 := hts (.fieldLink RX0 21 "BeatDoubts$Arrivals" "timeOfNews" "[I") (by decide +kernel)
  have lk48 := hts (.fieldLink RX0 48 "BeatDoubts$Arrivals" "newsCount" "I") (by decide +kernel)
  have lk9 := hts (.fieldLink RX0 9 "BeatDoubts$Arrivals" "timeOfBeat" "[I") (by decide +kernel)
  have B7 : ∀ (n : Nat) (σ : SS) (x1 : Int32) (x2 : Int32) (H : Heap) (locs : List Loc) (ls : Array Slot), fx3 (lb_X0_numberNews_7 K p0) n σ x1 x2 → PZ Z σ H → SZ Z s H locs → lv_has ls 3 [(0, .ref (zq Z p0)), (1, .int x1), (2, .int x2)] → W p l e (headSpec wsX0_numberNews (rm9 0 0)).room s m args below meth c H locs 0 0 (MQ below (qcV Z K s.heap.size) args s 0 0 (aZ Z s.heap.size)) (F0 m 7 ls []) := by
    intro n7
    induction n7 with
    | zero => intro σ x1 x2 H locs ls h; exact h.elim
    | succ n7 ih7 =>
      intro σ x1 x2 H locs ls h hP hS hl
      have h : lb_X0_numberNews_7 K p0 (fx3 (lb_X0_numberNews_7 K p0) n7) σ x1 x2 := h
      unfold lb_X0_numberNews_7 at h
      refine lv_iload_n hx hb dX0_numberNews_7 rfl (lv_at hl 2 rfl) ?_
      refine lv_iload_n hx hb dX0_numberNews_8 rfl (lv_at hl 1 rfl) ?_
      refine lv_icmp_ge (tgt := 73) hx hb dX0_numberNews_9 (by decide) (fun hc => ?_) (fun hc => ?_)
      · have h := h.1 hc
        exact zr_V hx hb hr hlocks hP hS h dX0_numberNews_73
      · have h := h.2 hc
        refine lv_aload_n hx hb dX0_numberNews_12 rfl (lv_at hl 0 rfl) ?_
        refine fg_0_1 hZ hx hb hts in0 hown hE hP hk0 lk15 dX0_numberNews_13 ?_
        refine lv_iload_n hx hb dX0_numberNews_16 rfl (lv_at hl 2 rfl) ?_
        obtain ⟨hin, h⟩ := h
        refine al_10 hZ hx hb hE hP (kr_0_1 hk0) hin dX0_numberNews_17 ?_
        refine lv_iconst (v := (-1)) hx hb dX0_numberNews_18 (by decide) ?_
        refine lv_icmp_eq (tgt := 67) hx hb dX0_numberNews_19 (by decide) (fun hc => ?_) (fun hc => ?_)
        · have h := h.1 hc
          refine lv_iinc (v := (x2 + 1)) (lv' := [(2, .int (x2 + 1)), (0, .ref (zq Z p0)), (1, .int x1)]) hx hb dX0_numberNews_67 hl (k := 2) rfl rfl (by decide) rfl (fun ls hl => ?_)
          refine lv_goto (tgt := 7) hx hb dX0_numberNews_70 (by decide) ?_
          exact ih7 σ x1 (x2 + 1) _ _ _ h hP hS (lv_sub hl [1, 2, 0] rfl)
        · have h := h.2 hc
          refine lv_aload_n hx hb dX0_numberNews_22 rfl (lv_at hl 0 rfl) ?_
          refine fg_0_1 hZ hx hb hts in0 hown hE hP hk0 lk15 dX0_numberNews_23 ?_
          refine lv_iload_n hx hb dX0_numberNews_26 rfl (lv_at hl 2 rfl) ?_
          refine lv_aload_n hx hb dX0_numberNews_27 rfl (lv_at hl 0 rfl) ?_
          refine fg_0_7 hZ hx hb hts in0 hown hE hP hk0 lk48 dX0_numberNews_28 ?_
          obtain ⟨hin, h⟩ := h
          refine as_10 hZ hx hb hE hP hS (kr_0_1 hk0) hin dX0_numberNews_31 (fun H locs hP hS => ?_)
          refine lv_aload_n hx hb dX0_numberNews_32 rfl (lv_at hl 0 rfl) ?_
          refine fg_0_2 hZ hx hb hts in0 hown hE hP hk0 lk18 dX0_numberNews_33 ?_
          refine lv_aload_n hx hb dX0_numberNews_36 rfl (lv_at hl 0 rfl) ?_
          refine fg_0_7 hZ hx hb hts in0 hown hE hP hk0 lk48 dX0_numberNews_37 ?_
          refine lv_iload_n hx hb dX0_numberNews_40 rfl (lv_at hl 2 rfl) ?_
          obtain ⟨hin, h⟩ := h
          refine as_10 hZ hx hb hE hP hS (kr_0_2 hk0) hin dX0_numberNews_41 (fun H locs hP hS => ?_)
          refine lv_aload_n hx hb dX0_numberNews_42 rfl (lv_at hl 0 rfl) ?_
          refine fg_0_3 hZ hx hb hts in0 hown hE hP hk0 lk21 dX0_numberNews_43 ?_
          refine lv_aload_n hx hb dX0_numberNews_46 rfl (lv_at hl 0 rfl) ?_
          refine fg_0_7 hZ hx hb hts in0 hown hE hP hk0 lk48 dX0_numberNews_47 ?_
          refine lv_aload_n hx hb dX0_numberNews_50 rfl (lv_at hl 0 rfl) ?_
          refine fg_0_0 hZ hx hb hts in0 hown hE hP hk0 lk9 dX0_numberNews_51 ?_
          refine lv_iload_n hx hb dX0_numberNews_54 rfl (lv_at hl 2 rfl) ?_
          obtain ⟨hin, h⟩ := h
          refine al_10 hZ hx hb hE hP (kr_0_0 hk0) hin dX0_numberNews_55 ?_
          obtain ⟨hin, h⟩ := h
          refine as_10 hZ hx hb hE hP hS (kr_0_3 hk0) hin dX0_numberNews_56 (fun H locs hP hS => ?_)
          refine lv_aload_n hx hb dX0_numberNews_57 rfl (lv_at hl 0 rfl) ?_
          refine lv_dup hx hb dX0_numberNews_58 rfl ?_
          refine fg_0_7 hZ hx hb hts in0 hown hE hP hk0 lk48 dX0_numberNews_59 ?_
          refine lv_iconst (v := 1) hx hb dX0_numberNews_62 (by decide) ?_
          refine lv_iadd hx hb dX0_numberNews_63 ?_
          refine fp_0_7 hZ hx hb hts in0 hown hE hP hS hk0 lk48 dX0_numberNews_64 (fun H locs hP hS => ?_)
          refine lv_iinc (v := (x2 + 1)) (lv' := [(2, .int (x2 + 1)), (0, .ref (zq Z p0)), (1, .int x1)]) hx hb dX0_numberNews_67 hl (k := 2) rfl rfl (by decide) rfl (fun ls hl => ?_)
          refine lv_goto (tgt := 7) hx hb dX0_numberNews_70 (by decide) ?_
          exact ih7 (sI (sA (sA (sA σ (p0 + 2) x2.toNatClampNeg (gI σ p0 7)) (p0 + 3) (gI σ p0 7).toNatClampNeg x2) (p0 + 4) (gI σ p0 7).toNatClampNeg (gA (sA (sA σ (p0 + 2) x2.toNatClampNeg (gI σ p0 7)) (p0 + 3) (gI σ p0 7).toNatClampNeg x2) (p0 + 1) x2.toNatClampNeg)) p0 7 ((gI σ p0 7) + 1)) x1 (x2 + 1) _ _ _ h hP hS (lv_sub hl [1, 2, 0] rfl)
  unfold wp_X0_numberNews at h
  refine lv_aload_n hx hb dX0_numberNews_0 rfl (lv_at hl 0 rfl) ?_
  refine lv_iconst (v := 0) hx hb dX0_numberNews_1 (by decide) ?_
  refine fp_0_7 hZ hx hb hts in0 hown hE hP hS hk0 lk48 dX0_numberNews_2 (fun H locs hP hS => ?_)
  refine lv_iconst (v := 0) hx hb dX0_numberNews_5 (by decide) ?_
  refine lv_istore_n (lv' := [(2, .int 0), (0, .ref (zq Z p0)), (1, .int x1)]) hx hb dX0_numberNews_6 rfl hl (by decide) rfl (fun ls hl => ?_)
  obtain ⟨n, h⟩ := h
  exact B7 n (sI σ p0 7 0) x1 0 _ _ _ h hP hS (lv_sub hl [1, 2, 0] rfl)
theorem hd_X0_follow : yX0_follow.cls = RX0 ∧ yX0_follow.cls ≠ "java/lang/invoke/MethodHandle" ∧ yX0_follow.cls ≠ "java/lang/invoke/VarHandle" ∧ (parseMethodDescriptor yX0_follow.desc).map (fun d => d.parameters.length) = some 5 := by decide +kernel
set_option maxHeartbeats 4000000 in
set_option maxRecDepth 100000 in
theorem mt_X0_follow (l : Launch) {Z : ZW} (hZ : isC Z) (σ : SS) (sz : Nat) {p0 : Nat} {p1 : Nat} (hk0 : kd p0 = 0) (hk1 : kd p1 = 10) (x2 : Int32) (x3 : Int32) (x4 : Int32) (x5 : Int32) (K : SS → Prop) (h : wp_X0_follow σ p0 p1 x2 x3 x4 x5 K) : mtZ l yX0_follow wsX0_follow (rm9 2 46) Z [.ref (zq Z p0), .ref (zq Z p1), .int x2, .int x3, .int x4, .int x5] σ sz (qcV Z K sz) := by
  refine Met.ofW (cc := cX0_follow) (maxL := 12) (ret := none) (by decide) rfl ?_
  intro p e s m args below meth c s₁ B hml hv
  obtain ⟨hargs, hsz, hP, hE1, hE2, hE3⟩ := hv
  subst hsz
  have hE : envZ Z s := ⟨hE1, hE2, hE3⟩
  have hx := B.exec
  have hb := B.bytes
  have hr := B.returns
  have hlocks := B.notSynchronized
  have hts := atoms_spec (ws := wsX0_follow) B.pre
  have hown : s.vm.findClass RX0 = some m.cls := findClass_of_methodNamed B.named
  have hS : SZ Z s s.heap [] := va_S.rf
  obtain ⟨ls, hef, hl⟩ := z_entry m hargs (n := 12) (Nat.le_of_ble_eq_true rfl)
  rw [hef]
  have hl : lv_has ls 12 [(0, .ref (zq Z p0)), (1, .ref (zq Z p1)), (2, .int x2), (3, .int x3), (4, .int x4), (5, .int x5)] := hl
  have in0 : ∀ w ∈ u_ws RX0 TX0 10, w ∈ wsX0_follow := by decide +kernel
  have lk15 := hts (.fieldLink RX0 15 "BeatDoubts$Arrivals" "newsOfBeat" "[I") (by decide +kernel)
  have lk33 := hts (.fieldLink RX0 33 "BeatDoubts$Arrivals" "period" "I") (by decide +kernel)
  have lk37 := hts (.fieldLink RX0 37 "BeatDoubts$Arrivals" "window" "I") (by decide +kernel)
  have lk40 := hts (.constant RX0 40 (1000000)) (by decide +kernel)
  have lk9 := hts (.fieldLink RX0 9 "BeatDoubts$Arrivals" "timeOfBeat" "[I") (by decide +kernel)
  have B20 : ∀ (n : Nat) (σ : SS) (x2 : Int32) (x3 : Int32) (x5 : Int32) (x6 : Int32) (x7 : Int32) (H : Heap) (locs : List Loc) (ls : Array Slot), fx6 (lb_X0_follow_20 K p0 p1) n σ x2 x3 x5 x6 x7 → PZ Z σ H → SZ Z s H locs → lv_has ls 12 [(0, .ref (zq Z p0)), (1, .ref (zq Z p1)), (2, .int x2), (3, .int x3), (5, .int x5), (6, .int x6), (7, .int x7)] → W p l e (headSpec wsX0_follow (rm9 2 46)).room s m args below meth c H locs 0 0 (MQ below (qcV Z K s.heap.size) args s 0 0 (aZ Z s.heap.size)) (F0 m 20 ls []) := by
    intro n20
    induction n20 with
    | zero => intro σ x2 x3 x5 x6 x7 H locs ls h; exact h.elim
    | succ n20 ih20 =>
      have B122 : ∀ (σ : SS) (x2 : Int32) (x3 : Int32) (x5 : Int32) (x6 : Int32) (x7 : Int32) (x10 : Int32) (x11 : Int32) (k0 : Int32) (k1 : Int32) (H : Heap) (locs : List Loc) (ls : Array Slot), bl_X0_follow_122 K (fx6 (lb_X0_follow_20 K p0 p1) n20) p0 p1 σ x2 x3 x5 x6 x7 x10 x11 k0 k1 → PZ Z σ H → SZ Z s H locs → lv_has ls 12 [(0, .ref (zq Z p0)), (1, .ref (zq Z p1)), (2, .int x2), (3, .int x3), (5, .int x5), (6, .int x6), (7, .int x7), (10, .int x10), (11, .int x11)] → W p l e (headSpec wsX0_follow (rm9 2 46)).room s m args below meth c H locs 0 0 (MQ below (qcV Z K s.heap.size) args s 0 0 (aZ Z s.heap.size)) (F0 m 122 ls [.int k0, .int k1, .ref (zq Z (p0 + 2))]) := by
        intro σ x2 x3 x5 x6 x7 x10 x11 k0 k1 H locs ls h hP hS hl
        unfold bl_X0_follow_122 at h
        obtain ⟨hin, h⟩ := h
        refine as_10 hZ hx hb hE hP hS (kr_0_1 hk0) hin dX0_follow_122 (fun H locs hP hS => ?_)
        refine lv_iload hx hb dX0_follow_123 (lv_at hl 8 rfl) ?_
        refine lv_if_eq (tgt := 133) hx hb dX0_follow_125 (by decide) (fun hc => ?_) (fun hc => ?_)
        · have h := h.1 hc
          refine lv_iload hx hb dX0_follow_133 (lv_at hl 5 rfl) ?_
          refine lv_istore (lv' := [(6, .int x6), (0, .ref (zq Z p0)), (1, .ref (zq Z p1)), (2, .int x2), (3, .int x3), (5, .int x5), (7, .int x7), (10, .int x10), (11, .int x11)]) hx hb dX0_follow_135 hl (by decide) rfl (fun ls hl => ?_)
          refine lv_iinc (v := (x7 + (-1))) (lv' := [(7, .int (x7 + (-1))), (6, .int x6), (0, .ref (zq Z p0)), (1, .ref (zq Z p1)), (2, .int x2), (3, .int x3), (5, .int x5), (10, .int x10), (11, .int x11)]) hx hb dX0_follow_137 hl (k := 6) rfl rfl (by decide) rfl (fun ls hl => ?_)
          refine lv_goto (tgt := 20) hx hb dX0_follow_140 (by decide) ?_
          exact ih20 (sA σ (p0 + 2) k1.toNatClampNeg k0) x2 x3 x5 x6 (x7 + (-1)) _ _ _ h hP hS (lv_sub hl [2, 3, 4, 5, 6, 1, 0] rfl)
        · have h := h.2 hc
          refine lv_iload hx hb dX0_follow_128 (lv_at hl 7 rfl) ?_
          refine lv_goto (tgt := 135) hx hb dX0_follow_130 (by decide) ?_
          refine lv_istore (lv' := [(6, .int x10), (0, .ref (zq Z p0)), (1, .ref (zq Z p1)), (2, .int x2), (3, .int x3), (5, .int x5), (7, .int x7), (10, .int x10), (11, .int x11)]) hx hb dX0_follow_135 hl (by decide) rfl (fun ls hl => ?_)
          refine lv_iinc (v := (x7 + (-1))) (lv' := [(7, .int (x7 + (-1))), (6, .int x10), (0, .ref (zq Z p0)), (1, .ref (zq Z p1)), (2, .int x2), (3, .int x3), (5, .int x5), (10, .int x10), (11, .int x11)]) hx hb dX0_follow_137 hl (k := 6) rfl rfl (by decide) rfl (fun ls hl => ?_)
          refine lv_goto (tgt := 20) hx hb dX0_follow_140 (by decide) ?_
          exact ih20 (sA σ (p0 + 2) k1.toNatClampNeg k0) x2 x3 x5 x10 (x7 + (-1)) _ _ _ h hP hS (lv_sub hl [2, 3, 4, 5, 6, 1, 0] rfl)
      have B94 : ∀ (σ : SS) (x2 : Int32) (x3 : Int32) (x5 : Int32) (x6 : Int32) (x7 : Int32) (x10 : Int32) (k0 : Int32) (H : Heap) (locs : List Loc) (ls : Array Slot), bl_X0_follow_94 K (fx6 (lb_X0_follow_20 K p0 p1) n20) p0 p1 σ x2 x3 x5 x6 x7 x10 k0 → PZ Z σ H → SZ Z s H locs → lv_has ls 12 [(0, .ref (zq Z p0)), (1, .ref (zq Z p1)), (2, .int x2), (3, .int x3), (5, .int x5), (6, .int x6), (7, .int x7), (10, .int x10)] → W p l e (headSpec wsX0_follow (rm9 2 46)).room s m args below meth c H locs 0 0 (MQ below (qcV Z K s.heap.size) args s 0 0 (aZ Z s.heap.size)) (F0 m 94 ls [.int k0]) := by
        intro σ x2 x3 x5 x6 x7 x10 k0 H locs ls h hP hS hl
        unfold bl_X0_follow_94 at h
        refine lv_istore (lv' := [(11, .int k0), (0, .ref (zq Z p0)), (1, .ref (zq Z p1)), (2, .int x2), (3, .int x3), (5, .int x5), (6, .int x6), (7, .int x7), (10, .int x10)]) hx hb dX0_follow_94 hl (by decide) rfl (fun ls hl => ?_)
        refine lv_aload_n hx hb dX0_follow_96 rfl (lv_at hl 1 rfl) ?_
        refine fg_0_0 hZ hx hb hts in0 hown hE hP hk0 lk9 dX0_follow_97 ?_
        refine lv_iload hx hb dX0_follow_100 (lv_at hl 7 rfl) ?_
        refine lv_iload hx hb dX0_follow_102 (lv_at hl 8 rfl) ?_
        obtain ⟨hin, h⟩ := h
        refine as_10 hZ hx hb hE hP hS (kr_0_0 hk0) hin dX0_follow_104 (fun H locs hP hS => ?_)
        refine lv_aload_n hx hb dX0_follow_105 rfl (lv_at hl 1 rfl) ?_
        refine fg_0_1 hZ hx hb hts in0 hown hE hP hk0 lk15 dX0_follow_106 ?_
        refine lv_iload hx hb dX0_follow_109 (lv_at hl 7 rfl) ?_
        refine lv_iload hx hb dX0_follow_111 (lv_at hl 0 rfl) ?_
        refine lv_if_eq (tgt := 121) hx hb dX0_follow_113 (by decide) (fun hc => ?_) (fun hc => ?_)
        · have h := h.1 hc
          refine lv_iconst (v := (-1)) hx hb dX0_follow_121 (by decide) ?_
          exact B122 (sA σ (p0 + 1) x7.toNatClampNeg x10) x2 x3 x5 x6 x7 x10 k0 (-1) x7 _ _ _ h hP hS (lv_sub hl [1, 2, 3, 4, 5, 6, 7, 8, 0] rfl)
        · have h := h.2 hc
          refine lv_iload hx hb dX0_follow_116 (lv_at hl 7 rfl) ?_
          refine lv_goto (tgt := 122) hx hb dX0_follow_118 (by decide) ?_
          exact B122 (sA σ (p0 + 1) x7.toNatClampNeg x10) x2 x3 x5 x6 x7 x10 k0 x7 x7 _ _ _ h hP hS (lv_sub hl [1, 2, 3, 4, 5, 6, 7, 8, 0] rfl)
      have B75 : ∀ (σ : SS) (x2 : Int32) (x3 : Int32) (x5 : Int32) (x6 : Int32) (x7 : Int32) (x9 : Int32) (k0 : Int32) (H : Heap) (locs : List Loc) (ls : Array Slot), bl_X0_follow_75 K (fx6 (lb_X0_follow_20 K p0 p1) n20) p0 p1 σ x2 x3 x5 x6 x7 x9 k0 → PZ Z σ H → SZ Z s H locs → lv_has ls 12 [(0, .ref (zq Z p0)), (1, .ref (zq Z p1)), (2, .int x2), (3, .int x3), (5, .int x5), (6, .int x6), (7, .int x7), (9, .int x9)] → W p l e (headSpec wsX0_follow (rm9 2 46)).room s m args below meth c H locs 0 0 (MQ below (qcV Z K s.heap.size) args s 0 0 (aZ Z s.heap.size)) (F0 m 75 ls [.int k0]) := by
        intro σ x2 x3 x5 x6 x7 x9 k0 H locs ls h hP hS hl
        unfold bl_X0_follow_75 at h
        refine lv_istore (lv' := [(10, .int k0), (0, .ref (zq Z p0)), (1, .ref (zq Z p1)), (2, .int x2), (3, .int x3), (5, .int x5), (6, .int x6), (7, .int x7), (9, .int x9)]) hx hb dX0_follow_75 hl (by decide) rfl (fun ls hl => ?_)
        refine lv_iload hx hb dX0_follow_77 (lv_at hl 8 rfl) ?_
        refine lv_if_ne (tgt := 93) hx hb dX0_follow_79 (by decide) (fun hc => ?_) (fun hc => ?_)
        · have h := h.1 hc
          refine lv_iconst (v := 0) hx hb dX0_follow_93 (by decide) ?_
          exact B94 σ x2 x3 x5 x6 x7 k0 0 _ _ _ h hP hS (lv_sub hl [1, 2, 3, 4, 5, 6, 7, 0] rfl)
        · have h := h.2 hc
          refine lv_iload hx hb dX0_follow_82 (lv_at hl 0 rfl) ?_
          refine lv_iload hx hb dX0_follow_84 (lv_at hl 6 rfl) ?_
          refine lv_icmp_gt (tgt := 93) hx hb dX0_follow_86 (by decide) (fun hc => ?_) (fun hc => ?_)
          · have h := h.1 hc
            refine lv_iconst (v := 0) hx hb dX0_follow_93 (by decide) ?_
            exact B94 σ x2 x3 x5 x6 x7 k0 0 _ _ _ h hP hS (lv_sub hl [1, 2, 3, 4, 5, 6, 7, 0] rfl)
          · have h := h.2 hc
            refine lv_iconst (v := 1) hx hb dX0_follow_89 (by decide) ?_
            refine lv_goto (tgt := 94) hx hb dX0_follow_90 (by decide) ?_
            exact B94 σ x2 x3 x5 x6 x7 k0 1 _ _ _ h hP hS (lv_sub hl [1, 2, 3, 4, 5, 6, 7, 0] rfl)
      have B57 : ∀ (σ : SS) (x2 : Int32) (x3 : Int32) (x5 : Int32) (x6 : Int32) (x7 : Int32) (x8 : Int32) (k0 : Int32) (H : Heap) (locs : List Loc) (ls : Array Slot), bl_X0_follow_57 K (fx6 (lb_X0_follow_20 K p0 p1) n20) p0 p1 σ x2 x3 x5 x6 x7 x8 k0 → PZ Z σ H → SZ Z s H locs → lv_has ls 12 [(0, .ref (zq Z p0)), (1, .ref (zq Z p1)), (2, .int x2), (3, .int x3), (5, .int x5), (6, .int x6), (7, .int x7), (8, .int x8)] → W p l e (headSpec wsX0_follow (rm9 2 46)).room s m args below meth c H locs 0 0 (MQ below (qcV Z K s.heap.size) args s 0 0 (aZ Z s.heap.size)) (F0 m 57 ls [.int k0]) := by
        intro σ x2 x3 x5 x6 x7 x8 k0 H locs ls h hP hS hl
        unfold bl_X0_follow_57 at h
        refine lv_istore (lv' := [(9, .int k0), (0, .ref (zq Z p0)), (1, .ref (zq Z p1)), (2, .int x2), (3, .int x3), (5, .int x5), (6, .int x6), (7, .int x7), (8, .int x8)]) hx hb dX0_follow_57 hl (by decide) rfl (fun ls hl => ?_)
        refine lv_iload hx hb dX0_follow_59 (lv_at hl 0 rfl) ?_
        refine lv_if_eq (tgt := 68) hx hb dX0_follow_61 (by decide) (fun hc => ?_) (fun hc => ?_)
        · have h := h.1 hc
          refine lv_iload hx hb dX0_follow_68 (lv_at hl 8 rfl) ?_
          refine lv_aload_n hx hb dX0_follow_70 rfl (lv_at hl 2 rfl) ?_
          refine lv_iload hx hb dX0_follow_71 (lv_at hl 7 rfl) ?_
          obtain ⟨hin, h⟩ := h
          refine al_10 hZ hx hb hE hP hk1 hin dX0_follow_73 ?_
          refine lv_iadd hx hb dX0_follow_74 ?_
          exact B75 σ x2 x3 x5 x6 x7 k0 (x8 + (gA σ p1 x7.toNatClampNeg)) _ _ _ h hP hS (lv_sub hl [1, 2, 3, 4, 5, 6, 7, 0] rfl)
        · have h := h.2 hc
          refine lv_iconst (v := (-1)) hx hb dX0_follow_64 (by decide) ?_
          refine lv_goto (tgt := 75) hx hb dX0_follow_65 (by decide) ?_
          exact B75 σ x2 x3 x5 x6 x7 k0 (-1) _ _ _ h hP hS (lv_sub hl [1, 2, 3, 4, 5, 6, 7, 0] rfl)
      intro σ x2 x3 x5 x6 x7 H locs ls h hP hS hl
      have h : lb_X0_follow_20 K p0 p1 (fx6 (lb_X0_follow_20 K p0 p1) n20) σ x2 x3 x5 x6 x7 := h
      unfold lb_X0_follow_20 at h
      refine lv_iload hx hb dX0_follow_20 (lv_at hl 6 rfl) ?_
      refine lv_if_lt (tgt := 143) hx hb dX0_follow_22 (by decide) (fun hc => ?_) (fun hc => ?_)
      · have h := h.1 hc
        refine lv_aload_n hx hb dX0_follow_143 rfl (lv_at hl 0 rfl) ?_
        refine lv_iload_n hx hb dX0_follow_144 rfl (lv_at hl 2 rfl) ?_
        refine zc_VV (As := [.int x2]) (rest := []) ⟨hx, hb, hml, hown, hts⟩ (cwV 1 hts gX0_follow_X0_numberNews rfl rfl rfl hd_X0_numberNews ⟨Nat.le_of_ble_eq_true rfl, Nat.le_of_ble_eq_true rfl⟩) (mt_X0_numberNews l hZ σ _ hk0 x2 _ h) (rc_0 hZ hE hP hk0) hE hP hS rfl hl.1 rfl (Nat.le_of_ble_eq_true rfl) dX0_follow_145 ⟨Nat.zero_le _, Nat.zero_le _⟩ (fun σ145 H locs h hP hS => ?_)
        refine lv_aload_n hx hb dX0_follow_148 rfl (lv_at hl 0 rfl) ?_
        refine zc_VV (As := []) (rest := []) ⟨hx, hb, hml, hown, hts⟩ (cwV 0 hts gX0_follow_X0_expectNext rfl rfl rfl hd_X0_expectNext ⟨Nat.le_of_ble_eq_true rfl, Nat.le_of_ble_eq_true rfl⟩) (mt_X0_expectNext l hZ σ145 _ hk0 _ h) (rc_0 hZ hE hP hk0) hE hP hS rfl hl.1 rfl (Nat.le_of_ble_eq_true rfl) dX0_follow_149 ⟨Nat.zero_le _, Nat.zero_le _⟩ (fun σ149 H locs h hP hS => ?_)
        exact zr_V hx hb hr hlocks hP hS h dX0_follow_152
      · have h := h.2 hc
        refine lv_iload hx hb dX0_follow_25 (lv_at hl 6 rfl) ?_
        refine lv_iload_n hx hb dX0_follow_27 rfl (lv_at hl 3 rfl) ?_
        refine lv_imul hx hb dX0_follow_28 ?_
        refine lv_istore (lv' := [(8, .int (x7 * x3)), (0, .ref (zq Z p0)), (1, .ref (zq Z p1)), (2, .int x2), (3, .int x3), (5, .int x5), (6, .int x6), (7, .int x7)]) hx hb dX0_follow_29 hl (by decide) rfl (fun ls hl => ?_)
        refine lv_aload_n hx hb dX0_follow_31 rfl (lv_at hl 2 rfl) ?_
        refine lv_iload hx hb dX0_follow_32 (lv_at hl 7 rfl) ?_
        obtain ⟨hin, h⟩ := h
        refine al_10 hZ hx hb hE hP hk1 hin dX0_follow_34 ?_
        refine lv_iconst (v := (-1)) hx hb dX0_follow_35 (by decide) ?_
        refine lv_icmp_eq (tgt := 52) hx hb dX0_follow_36 (by decide) (fun hc => ?_) (fun hc => ?_)
        · have h := h.1 hc
          refine lv_iconst (v := 1) hx hb dX0_follow_52 (by decide) ?_
          refine lv_goto (tgt := 57) hx hb dX0_follow_53 (by decide) ?_
          exact B57 σ x2 x3 x5 x6 x7 (x7 * x3) 1 _ _ _ h hP hS (lv_sub hl [1, 2, 3, 4, 5, 6, 7, 0] rfl)
        · have h := h.2 hc
          refine lv_iload hx hb dX0_follow_39 (lv_at hl 5 rfl) ?_
          refine lv_iconst (v := (-1)) hx hb dX0_follow_41 (by decide) ?_
          refine lv_icmp_eq (tgt := 56) hx hb dX0_follow_42 (by decide) (fun hc => ?_) (fun hc => ?_)
          · have h := h.1 hc
            refine lv_iconst (v := 0) hx hb dX0_follow_56 (by decide) ?_
            exact B57 σ x2 x3 x5 x6 x7 (x7 * x3) 0 _ _ _ h hP hS (lv_sub hl [1, 2, 3, 4, 5, 6, 7, 0] rfl)
          · have h := h.2 hc
            refine lv_iload hx hb dX0_follow_45 (lv_at hl 0 rfl) ?_
            refine lv_iload hx hb dX0_follow_47 (lv_at hl 5 rfl) ?_
            refine lv_icmp_lt (tgt := 56) hx hb dX0_follow_49 (by decide) (fun hc => ?_) (fun hc => ?_)
            · have h := h.1 hc
              refine lv_iconst (v := 0) hx hb dX0_follow_56 (by decide) ?_
              exact B57 σ x2 x3 x5 x6 x7 (x7 * x3) 0 _ _ _ h hP hS (lv_sub hl [1, 2, 3, 4, 5, 6, 7, 0] rfl)
            · have h := h.2 hc
              refine lv_iconst (v := 1) hx hb dX0_follow_52 (by decide) ?_
              refine lv_goto (tgt := 57) hx hb dX0_follow_53 (by decide) ?_
              exact B57 σ x2 x3 x5 x6 x7 (x7 * x3) 1 _ _ _ h hP hS (lv_sub hl [1, 2, 3, 4, 5, 6, 7, 0] rfl)
  unfold wp_X0_follow at h
  refine lv_aload_n hx hb dX0_follow_0 rfl (lv_at hl 0 rfl) ?_
  refine lv_iload_n hx hb dX0_follow_1 rfl (lv_at hl 3 rfl) ?_
  refine fp_0_8 hZ hx hb hts in0 hown hE hP hS hk0 lk33 dX0_follow_2 (fun H locs hP hS => ?_)
  refine lv_aload_n hx hb dX0_follow_5 rfl (lv_at hl 0 rfl) ?_
  refine lv_iload hx hb dX0_follow_6 (lv_at hl 4 rfl) ?_
  refine fp_0_9 hZ hx hb hts in0 hown hE hP hS hk0 lk37 dX0_follow_8 (fun H locs hP hS => ?_)
  refine lv_ldc (v := 1000000) hx hb hown lk40 dX0_follow_11 ?_
  refine lv_istore (lv' := [(6, .int 1000000), (0, .ref (zq Z p0)), (1, .ref (zq Z p1)), (2, .int x2), (3, .int x3), (4, .int x4), (5, .int x5)]) hx hb dX0_follow_13 hl (by decide) rfl (fun ls hl => ?_)
  refine lv_iload_n hx hb dX0_follow_15 rfl (lv_at hl 3 rfl) ?_
  refine lv_iconst (v := 1) hx hb dX0_follow_16 (by decide) ?_
  refine lv_isub hx hb dX0_follow_17 ?_
  refine lv_istore (lv' := [(7, .int (x2 - 1)), (6, .int 1000000), (0, .ref (zq Z p0)), (1, .ref (zq Z p1)), (2, .int x2), (3, .int x3), (4, .int x4), (5, .int x5)]) hx hb dX0_follow_18 hl (by decide) rfl (fun ls hl => ?_)
  obtain ⟨n, h⟩ := h
  exact B20 n (sI (sI σ p0 8 x3) p0 9 x4) x2 x3 x5 1000000 (x2 - 1) _ _ _ h hP hS (lv_sub hl [2, 3, 4, 5, 7, 1, 0] rfl)
theorem hd_X0_latestAt : yX0_latestAt.cls = RX0 ∧ yX0_latestAt.cls ≠ "java/lang/invoke/MethodHandle" ∧ yX0_latestAt.cls ≠ "java/lang/invoke/VarHandle" ∧ (parseMethodDescriptor yX0_latestAt.desc).map (fun d => d.parameters.length) = some 1 := by decide +kernel
set_option maxHeartbeats 4000000 in
set_option maxRecDepth 100000 in
theorem mt_X0_latestAt (l : Launch) {Z : ZW} (hZ : isC Z) (σ : SS) (sz : Nat) {p0 : Nat} (hk0 : kd p0 = 0) (x1 : Int32) (K : SS → Int32 → Prop) (h : wp_X0_latestAt σ p0 x1 K) : mtZ l yX0_latestAt wsX0_latestAt (rm9 0 0) Z [.ref (zq Z p0), .int x1] σ sz (qcI Z K sz) := by
  refine Met.ofW (cc := cX0_latestAt) (maxL := 4) (ret := (some .int)) (by decide) rfl ?_
  intro p e s m args below meth c s₁ B hml hv
  obtain ⟨hargs, hsz, hP, hE1, hE2, hE3⟩ := hv
  subst hsz
  have hE : envZ Z s := ⟨hE1, hE2, hE3⟩
  have hx := B.exec
  have hb := B.bytes
  have hr := B.returns
  have hlocks := B.notSynchronized
  have hts := atoms_spec (ws := wsX0_latestAt) B.pre
  have hown : s.vm.findClass RX0 = some m.cls := findClass_of_methodNamed B.named
  have hS : SZ Z s s.heap [] := va_S.rf
  obtain ⟨ls, hef, hl⟩ := z_entry m hargs (n := 4) (Nat.le_of_ble_eq_true rfl)
  rw [hef]
  have hl : lv_has ls 4 [(0, .ref (zq Z p0)), (1, .int x1)] := hl
  have in0 : ∀ w ∈ u_ws RX0 TX0 10, w ∈ wsX0_latestAt := by decide +kernel
  have lk21 := hts (.fieldLink RX0 21 "BeatDoubts$Arrivals" "timeOfNews" "[I") (by decide +kernel)
  have lk48 := hts (.fieldLink RX0 48 "BeatDoubts$Arrivals" "newsCount" "I") (by decide +kernel)
  have B4 : ∀ (n : Nat) (σ : SS) (x1 : Int32) (x2 : Int32) (x3 : Int32) (H : Heap) (locs : List Loc) (ls : Array Slot), fx4 (lb_X0_latestAt_4 K p0) n σ x1 x2 x3 → PZ Z σ H → SZ Z s H locs → lv_has ls 4 [(0, .ref (zq Z p0)), (1, .int x1), (2, .int x2), (3, .int x3)] → W p l e (headSpec wsX0_latestAt (rm9 0 0)).room s m args below meth c H locs 0 0 (MQ below (qcI Z K s.heap.size) args s 0 0 (aZ Z s.heap.size)) (F0 m 4 ls []) := by
    intro n4
    induction n4 with
    | zero => intro σ x1 x2 x3 H locs ls h; exact h.elim
    | succ n4 ih4 =>
      intro σ x1 x2 x3 H locs ls h hP hS hl
      have h : lb_X0_latestAt_4 K p0 (fx4 (lb_X0_latestAt_4 K p0) n4) σ x1 x2 x3 := h
      unfold lb_X0_latestAt_4 at h
      refine lv_iload_n hx hb dX0_latestAt_4 rfl (lv_at hl 3 rfl) ?_
      refine lv_aload_n hx hb dX0_latestAt_5 rfl (lv_at hl 0 rfl) ?_
      refine fg_0_7 hZ hx hb hts in0 hown hE hP hk0 lk48 dX0_latestAt_6 ?_
      refine lv_icmp_ge (tgt := 30) hx hb dX0_latestAt_9 (by decide) (fun hc => ?_) (fun hc => ?_)
      · have h := h.1 hc
        refine lv_iload_n hx hb dX0_latestAt_30 rfl (lv_at hl 2 rfl) ?_
        exact zr_I hx hb hr hlocks hP hS h dX0_latestAt_31
      · have h := h.2 hc
        refine lv_aload_n hx hb dX0_latestAt_12 rfl (lv_at hl 0 rfl) ?_
        refine fg_0_3 hZ hx hb hts in0 hown hE hP hk0 lk21 dX0_latestAt_13 ?_
        refine lv_iload_n hx hb dX0_latestAt_16 rfl (lv_at hl 3 rfl) ?_
        obtain ⟨hin, h⟩ := h
        refine al_10 hZ hx hb hE hP (kr_0_3 hk0) hin dX0_latestAt_17 ?_
        refine lv_iload_n hx hb dX0_latestAt_18 rfl (lv_at hl 1 rfl) ?_
        refine lv_icmp_gt (tgt := 30) hx hb dX0_latestAt_19 (by decide) (fun hc => ?_) (fun hc => ?_)
        · have h := h.1 hc
          refine lv_iload_n hx hb dX0_latestAt_30 rfl (lv_at hl 2 rfl) ?_
          exact zr_I hx hb hr hlocks hP hS h dX0_latestAt_31
        · have h := h.2 hc
          refine lv_iload_n hx hb dX0_latestAt_22 rfl (lv_at hl 3 rfl) ?_
          refine lv_istore_n (lv' := [(2, .int x3), (0, .ref (zq Z p0)), (1, .int x1), (3, .int x3)]) hx hb dX0_latestAt_23 rfl hl (by decide) rfl (fun ls hl => ?_)
          refine lv_iinc (v := (x3 + 1)) (lv' := [(3, .int (x3 + 1)), (2, .int x3), (0, .ref (zq Z p0)), (1, .int x1)]) hx hb dX0_latestAt_24 hl (k := 3) rfl rfl (by decide) rfl (fun ls hl => ?_)
          refine lv_goto (tgt := 4) hx hb dX0_latestAt_27 (by decide) ?_
          exact ih4 σ x1 x3 (x3 + 1) _ _ _ h hP hS (lv_sub hl [2, 3, 1, 0] rfl)
  unfold wp_X0_latestAt at h
  refine lv_iconst (v := (-1)) hx hb dX0_latestAt_0 (by decide) ?_
  refine lv_istore_n (lv' := [(2, .int (-1)), (0, .ref (zq Z p0)), (1, .int x1)]) hx hb dX0_latestAt_1 rfl hl (by decide) rfl (fun ls hl => ?_)
  refine lv_iconst (v := 0) hx hb dX0_latestAt_2 (by decide) ?_
  refine lv_istore_n (lv' := [(3, .int 0), (2, .int (-1)), (0, .ref (zq Z p0)), (1, .int x1)]) hx hb dX0_latestAt_3 rfl hl (by decide) rfl (fun ls hl => ?_)
  obtain ⟨n, h⟩ := h
  exact B4 n σ x1 (-1) 0 _ _ _ h hP hS (lv_sub hl [2, 3, 1, 0] rfl)
theorem hd_X0_gapCountBy : yX0_gapCountBy.cls = RX0 ∧ yX0_gapCountBy.cls ≠ "java/lang/invoke/MethodHandle" ∧ yX0_gapCountBy.cls ≠ "java/lang/invoke/VarHandle" ∧ (parseMethodDescriptor yX0_gapCountBy.desc).map (fun d => d.parameters.length) = some 1 := by decide +kernel
set_option maxHeartbeats 4000000 in
set_option maxRecDepth 100000 in
theorem mt_X0_gapCountBy (l : Launch) {Z : ZW} (hZ : isC Z) (σ : SS) (sz : Nat) {p0 : Nat} (hk0 : kd p0 = 0) (x1 : Int32) (K : SS → Int32 → Prop) (h : wp_X0_gapCountBy σ p0 x1 K) : mtZ l yX0_gapCountBy wsX0_gapCountBy (rm9 1 21) Z [.ref (zq Z p0), .int x1] σ sz (qcI Z K sz) := by
  refine Met.ofW (cc := cX0_gapCountBy) (maxL := 2) (ret := (some .int)) (by decide) rfl ?_
  intro p e s m args below meth c s₁ B hml hv
  obtain ⟨hargs, hsz, hP, hE1, hE2, hE3⟩ := hv
  subst hsz
  have hE : envZ Z s := ⟨hE1, hE2, hE3⟩
  have hx := B.exec
  have hb := B.bytes
  have hr := B.returns
  have hlocks := B.notSynchronized
  have hts := atoms_spec (ws := wsX0_gapCountBy) B.pre
  have hown : s.vm.findClass RX0 = some m.cls := findClass_of_methodNamed B.named
  have hS : SZ Z s s.heap [] := va_S.rf
  obtain ⟨ls, hef, hl⟩ := z_entry m hargs (n := 2) (Nat.le_of_ble_eq_true rfl)
  rw [hef]
  have hl : lv_has ls 2 [(0, .ref (zq Z p0)), (1, .int x1)] := hl
  have in0 : ∀ w ∈ u_ws RX0 TX0 10, w ∈ wsX0_gapCountBy := by decide +kernel
  have cdmin := hts (.code Lib.Math.min.name Lib.Math.min.code 2 (some .int)) (by decide +kernel)
  have inM := hts (.initialized "java/lang/Math") (by decide +kernel)
  have lk37 := hts (.fieldLink RX0 37 "BeatDoubts$Arrivals" "window" "I") (by decide +kernel)
  have lk51 := hts (.methodLink RX0 51 Lib.Math.min.name) (by decide +kernel)
  have stmin := hts (.static Lib.Math.min.name) (by decide +kernel)
  unfold wp_X0_gapCountBy at h
  refine lv_iload_n hx hb dX0_gapCountBy_0 rfl (lv_at hl 1 rfl) ?_
  refine lv_aload_n hx hb dX0_gapCountBy_1 rfl (lv_at hl 0 rfl) ?_
  refine fg_0_9 hZ hx hb hts in0 hown hE hP hk0 lk37 dX0_gapCountBy_2 ?_
  refine va_mmin hx hb (hml.trans hl.1.symm) hown lk51 stmin inM cdmin (Nat.le_of_ble_eq_true rfl) (Nat.le_of_ble_eq_true rfl) (Nat.zero_le _) (Nat.zero_le _) dX0_gapCountBy_5 ?_
  exact zr_I hx hb hr hlocks hP hS h dX0_gapCountBy_8
theorem hd_X0_countGapsBelow : yX0_countGapsBelow.cls = RX0 ∧ yX0_countGapsBelow.cls ≠ "java/lang/invoke/MethodHandle" ∧ yX0_countGapsBelow.cls ≠ "java/lang/invoke/VarHandle" ∧ (parseMethodDescriptor yX0_countGapsBelow.desc).map (fun d => d.parameters.length) = some 2 := by decide +kernel
set_option maxHeartbeats 4000000 in
set_option maxRecDepth 100000 in
theorem mt_X0_countGapsBelow (l : Launch) {Z : ZW} (hZ : isC Z) (σ : SS) (sz : Nat) {p0 : Nat} (hk0 : kd p0 = 0) (x1 : Int32) (x2 : Int32) (K : SS → Int32 → Prop) (h : wp_X0_countGapsBelow σ p0 x1 x2 K) : mtZ l yX0_countGapsBelow wsX0_countGapsBelow (rm9 2 42) Z [.ref (zq Z p0), .int x1, .int x2] σ sz (qcI Z K sz) := by
  refine Met.ofW (cc := cX0_countGapsBelow) (maxL := 5) (ret := (some .int)) (by decide) rfl ?_
  intro p e s m args below meth c s₁ B hml hv
  obtain ⟨hargs, hsz, hP, hE1, hE2, hE3⟩ := hv
  subst hsz
  have hE : envZ Z s := ⟨hE1, hE2, hE3⟩
  have hx := B.exec
  have hb := B.bytes
  have hr := B.returns
  have hlocks := B.notSynchronized
  have hts := atoms_spec (ws := wsX0_countGapsBelow) B.pre
  have hown : s.vm.findClass RX0 = some m.cls := findClass_of_methodNamed B.named
  have hS : SZ Z s s.heap [] := va_S.rf
  obtain ⟨ls, hef, hl⟩ := z_entry m hargs (n := 5) (Nat.le_of_ble_eq_true rfl)
  rw [hef]
  have hl : lv_has ls 5 [(0, .ref (zq Z p0)), (1, .int x1), (2, .int x2)] := hl
  have in0 : ∀ w ∈ u_ws RX0 TX0 10, w ∈ wsX0_countGapsBelow := by decide +kernel
  have lk21 := hts (.fieldLink RX0 21 "BeatDoubts$Arrivals" "timeOfNews" "[I") (by decide +kernel)
  have B5 : ∀ (n : Nat) (σ : SS) (x1 : Int32) (x2 : Int32) (x3 : Int32) (x4 : Int32) (H : Heap) (locs : List Loc) (ls : Array Slot), fx5 (lb_X0_countGapsBelow_5 K p0) n σ x1 x2 x3 x4 → PZ Z σ H → SZ Z s H locs → lv_has ls 5 [(0, .ref (zq Z p0)), (1, .int x1), (2, .int x2), (3, .int x3), (4, .int x4)] → W p l e (headSpec wsX0_countGapsBelow (rm9 2 42)).room s m args below meth c H locs 0 0 (MQ below (qcI Z K s.heap.size) args s 0 0 (aZ Z s.heap.size)) (F0 m 5 ls []) := by
    intro n5
    induction n5 with
    | zero => intro σ x1 x2 x3 x4 H locs ls h; exact h.elim
    | succ n5 ih5 =>
      intro σ x1 x2 x3 x4 H locs ls h hP hS hl
      have h : lb_X0_countGapsBelow_5 K p0 (fx5 (lb_X0_countGapsBelow_5 K p0) n5) σ x1 x2 x3 x4 := h
      unfold lb_X0_countGapsBelow_5 at h
      refine lv_iload hx hb dX0_countGapsBelow_5 (lv_at hl 4 rfl) ?_
      refine lv_iload_n hx hb dX0_countGapsBelow_7 rfl (lv_at hl 1 rfl) ?_
      refine lv_aload_n hx hb dX0_countGapsBelow_8 rfl (lv_at hl 0 rfl) ?_
      refine lv_iload_n hx hb dX0_countGapsBelow_9 rfl (lv_at hl 1 rfl) ?_
      refine zc_VI (As := [.int x1]) (rest := [.int x1, .int x4]) ⟨hx, hb, hml, hown, hts⟩ (cwV 1 hts gX0_countGapsBelow_X0_gapCountBy rfl rfl rfl hd_X0_gapCountBy ⟨Nat.le_of_ble_eq_true rfl, Nat.le_of_ble_eq_true rfl⟩) (mt_X0_gapCountBy l hZ σ _ hk0 x1 _ h) (rc_0 hZ hE hP hk0) hE hP hS rfl hl.1 rfl (Nat.le_of_ble_eq_true rfl) dX0_countGapsBelow_10 ⟨Nat.zero_le _, Nat.zero_le _⟩ (fun r10 σ10 H locs h hP hS => ?_)
      refine lv_isub hx hb dX0_countGapsBelow_13 ?_
      refine lv_icmp_le (tgt := 47) hx hb dX0_countGapsBelow_14 (by decide) (fun hc => ?_) (fun hc => ?_)
      · have h := h.1 hc
        refine lv_iload_n hx hb dX0_countGapsBelow_47 rfl (lv_at hl 3 rfl) ?_
        exact zr_I hx hb hr hlocks hP hS h dX0_countGapsBelow_48
      · have h := h.2 hc
        refine lv_aload_n hx hb dX0_countGapsBelow_17 rfl (lv_at hl 0 rfl) ?_
        refine fg_0_3 hZ hx hb hts in0 hown hE hP hk0 lk21 dX0_countGapsBelow_18 ?_
        refine lv_iload hx hb dX0_countGapsBelow_21 (lv_at hl 4 rfl) ?_
        obtain ⟨hin, h⟩ := h
        refine al_10 hZ hx hb hE hP (kr_0_3 hk0) hin dX0_countGapsBelow_23 ?_
        refine lv_aload_n hx hb dX0_countGapsBelow_24 rfl (lv_at hl 0 rfl) ?_
        refine fg_0_3 hZ hx hb hts in0 hown hE hP hk0 lk21 dX0_countGapsBelow_25 ?_
        refine lv_iload hx hb dX0_countGapsBelow_28 (lv_at hl 4 rfl) ?_
        refine lv_iconst (v := 1) hx hb dX0_countGapsBelow_30 (by decide) ?_
        refine lv_isub hx hb dX0_countGapsBelow_31 ?_
        obtain ⟨hin, h⟩ := h
        refine al_10 hZ hx hb hE hP (kr_0_3 hk0) hin dX0_countGapsBelow_32 ?_
        refine lv_isub hx hb dX0_countGapsBelow_33 ?_
        refine lv_iload_n hx hb dX0_countGapsBelow_34 rfl (lv_at hl 2 rfl) ?_
        refine lv_icmp_ge (tgt := 41) hx hb dX0_countGapsBelow_35 (by decide) (fun hc => ?_) (fun hc => ?_)
        · have h := h.1 hc
          refine lv_iinc (v := (x4 + (-1))) (lv' := [(4, .int (x4 + (-1))), (0, .ref (zq Z p0)), (1, .int x1), (2, .int x2), (3, .int x3)]) hx hb dX0_countGapsBelow_41 hl (k := 4) rfl rfl (by decide) rfl (fun ls hl => ?_)
          refine lv_goto (tgt := 5) hx hb dX0_countGapsBelow_44 (by decide) ?_
          exact ih5 σ10 x1 x2 x3 (x4 + (-1)) _ _ _ h hP hS (lv_sub hl [1, 2, 3, 4, 0] rfl)
        · have h := h.2 hc
          refine lv_iinc (v := (x3 + 1)) (lv' := [(3, .int (x3 + 1)), (0, .ref (zq Z p0)), (1, .int x1), (2, .int x2), (4, .int x4)]) hx hb dX0_countGapsBelow_38 hl (k := 3) rfl rfl (by decide) rfl (fun ls hl => ?_)
          refine lv_iinc (v := (x4 + (-1))) (lv' := [(4, .int (x4 + (-1))), (3, .int (x3 + 1)), (0, .ref (zq Z p0)), (1, .int x1), (2, .int x2)]) hx hb dX0_countGapsBelow_41 hl (k := 4) rfl rfl (by decide) rfl (fun ls hl => ?_)
          refine lv_goto (tgt := 5) hx hb dX0_countGapsBelow_44 (by decide) ?_
          exact ih5 σ10 x1 x2 (x3 + 1) (x4 + (-1)) _ _ _ h hP hS (lv_sub hl [2, 3, 4, 1, 0] rfl)
  unfold wp_X0_countGapsBelow at h
  refine lv_iconst (v := 0) hx hb dX0_countGapsBelow_0 (by decide) ?_
  refine lv_istore_n (lv' := [(3, .int 0), (0, .ref (zq Z p0)), (1, .int x1), (2, .int x2)]) hx hb dX0_countGapsBelow_1 rfl hl (by decide) rfl (fun ls hl => ?_)
  refine lv_iload_n hx hb dX0_countGapsBelow_2 rfl (lv_at hl 2 rfl) ?_
  refine lv_istore (lv' := [(4, .int x1), (3, .int 0), (0, .ref (zq Z p0)), (1, .int x1), (2, .int x2)]) hx hb dX0_countGapsBelow_3 hl (by decide) rfl (fun ls hl => ?_)
  obtain ⟨n, h⟩ := h
  exact B5 n σ x1 x2 0 x1 _ _ _ h hP hS (lv_sub hl [2, 3, 4, 1, 0] rfl)
theorem hd_X0_offOf : yX0_offOf.cls = RX0 ∧ yX0_offOf.cls ≠ "java/lang/invoke/MethodHandle" ∧ yX0_offOf.cls ≠ "java/lang/invoke/VarHandle" ∧ (parseMethodDescriptor yX0_offOf.desc).map (fun d => d.parameters.length) = some 1 := by decide +kernel
set_option maxHeartbeats 4000000 in
set_option maxRecDepth 100000 in
theorem mt_X0_offOf (l : Launch) {Z : ZW} (hZ : isC Z) (σ : SS) (sz : Nat) {p0 : Nat} (hk0 : kd p0 = 0) (x1 : Int32) (K : SS → UInt64 → Prop) (h : wp_X0_offOf σ p0 x1 K) : mtZ l yX0_offOf wsX0_offOf (rm9 0 0) Z [.ref (zq Z p0), .int x1] σ sz (qcD Z K sz) := by
  refine Met.ofW (cc := cX0_offOf) (maxL := 4) (ret := (some .double)) (by decide) rfl ?_
  intro p e s m args below meth c s₁ B hml hv
  obtain ⟨hargs, hsz, hP, hE1, hE2, hE3⟩ := hv
  subst hsz
  have hE : envZ Z s := ⟨hE1, hE2, hE3⟩
  have hx := B.exec
  have hb := B.bytes
  have hr := B.returns
  have hlocks := B.notSynchronized
  have hts := atoms_spec (ws := wsX0_offOf) B.pre
  have hown : s.vm.findClass RX0 = some m.cls := findClass_of_methodNamed B.named
  have hS : SZ Z s s.heap [] := va_S.rf
  obtain ⟨ls, hef, hl⟩ := z_entry m hargs (n := 4) (Nat.le_of_ble_eq_true rfl)
  rw [hef]
  have hl : lv_has ls 4 [(0, .ref (zq Z p0)), (1, .int x1)] := hl
  have in0 : ∀ w ∈ u_ws RX0 TX0 10, w ∈ wsX0_offOf := by decide +kernel
  have lk21 := hts (.fieldLink RX0 21 "BeatDoubts$Arrivals" "timeOfNews" "[I") (by decide +kernel)
  have lk24 := hts (.fieldLink RX0 24 "BeatDoubts$Arrivals" "aboveBy" "[I") (by decide +kernel)
  have lk27 := hts (.fieldLink RX0 27 "BeatDoubts$Arrivals" "belowBy" "[I") (by decide +kernel)
  unfold wp_X0_offOf at h
  refine lv_aload_n hx hb dX0_offOf_0 rfl (lv_at hl 0 rfl) ?_
  refine fg_0_5 hZ hx hb hts in0 hown hE hP hk0 lk27 dX0_offOf_1 ?_
  refine lv_iload_n hx hb dX0_offOf_4 rfl (lv_at hl 1 rfl) ?_
  refine lv_iconst (v := 1) hx hb dX0_offOf_5 (by decide) ?_
  refine lv_isub hx hb dX0_offOf_6 ?_
  obtain ⟨hin, h⟩ := h
  refine al_10 hZ hx hb hE hP (kr_0_5 hk0) hin dX0_offOf_7 ?_
  refine lv_istore_n (lv' := [(2, .int (gA σ (p0 + 6) (x1 - 1).toNatClampNeg)), (0, .ref (zq Z p0)), (1, .int x1)]) hx hb dX0_offOf_8 rfl hl (by decide) rfl (fun ls hl => ?_)
  refine lv_aload_n hx hb dX0_offOf_9 rfl (lv_at hl 1 rfl) ?_
  refine fg_0_3 hZ hx hb hts in0 hown hE hP hk0 lk21 dX0_offOf_10 ?_
  refine lv_iload_n hx hb dX0_offOf_13 rfl (lv_at hl 2 rfl) ?_
  obtain ⟨hin, h⟩ := h
  refine al_10 hZ hx hb hE hP (kr_0_3 hk0) hin dX0_offOf_14 ?_
  refine lv_iload_n hx hb dX0_offOf_15 rfl (lv_at hl 0 rfl) ?_
  refine lv_imul hx hb dX0_offOf_16 ?_
  refine lv_aload_n hx hb dX0_offOf_17 rfl (lv_at hl 1 rfl) ?_
  refine fg_0_4 hZ hx hb hts in0 hown hE hP hk0 lk24 dX0_offOf_18 ?_
  refine lv_iload_n hx hb dX0_offOf_21 rfl (lv_at hl 2 rfl) ?_
  refine lv_iconst (v := 1) hx hb dX0_offOf_22 (by decide) ?_
  refine lv_isub hx hb dX0_offOf_23 ?_
  obtain ⟨hin, h⟩ := h
  refine al_10 hZ hx hb hE hP (kr_0_4 hk0) hin dX0_offOf_24 ?_
  refine lv_isub hx hb dX0_offOf_25 ?_
  refine lv_istore_n (lv' := [(3, .int (((gA σ (p0 + 4) x1.toNatClampNeg) * (gA σ (p0 + 6) (x1 - 1).toNatClampNeg)) - (gA σ (p0 + 5) (x1 - 1).toNatClampNeg))), (2, .int (gA σ (p0 + 6) (x1 - 1).toNatClampNeg)), (0, .ref (zq Z p0)), (1, .int x1)]) hx hb dX0_offOf_26 rfl hl (by decide) rfl (fun ls hl => ?_)
  refine lv_iload_n hx hb dX0_offOf_27 rfl (lv_at hl 1 rfl) ?_
  refine lv_iconst (v := 1) hx hb dX0_offOf_28 (by decide) ?_
  refine lv_icmp_ge (tgt := 36) hx hb dX0_offOf_29 (by decide) (fun hc => ?_) (fun hc => ?_)
  · have h := h.1 hc
    refine lv_iload_n hx hb dX0_offOf_36 rfl (lv_at hl 0 rfl) ?_
    refine lv_i2d hx hb dX0_offOf_37 ?_
    refine lv_iload_n hx hb dX0_offOf_38 rfl (lv_at hl 1 rfl) ?_
    refine lv_i2d hx hb dX0_offOf_39 ?_
    obtain ⟨hne, h⟩ := h
    refine lv_ddiv hx hb dX0_offOf_40 hne ?_
    exact zr_D hx hb hr hlocks hP hS h dX0_offOf_41
  · have h := h.2 hc
    refine lv_dconst0 hx hb dX0_offOf_32 ?_
    refine lv_goto (tgt := 41) hx hb dX0_offOf_33 (by decide) ?_
    exact zr_D hx hb hr hlocks hP hS h dX0_offOf_41
theorem hd_X2_lengthAbove : yX2_lengthAbove.cls = RX2 ∧ yX2_lengthAbove.cls ≠ "java/lang/invoke/MethodHandle" ∧ yX2_lengthAbove.cls ≠ "java/lang/invoke/VarHandle" ∧ (parseMethodDescriptor yX2_lengthAbove.desc).map (fun d => d.parameters.length) = some 1 := by decide +kernel
set_option maxHeartbeats 4000000 in
set_option maxRecDepth 100000 in
theorem mt_X2_lengthAbove (l : Launch) {Z : ZW} (hZ : isC Z) (σ : SS) (sz : Nat) {p0 : Nat} (hk0 : kd p0 = 2) (x1 : Int32) (K : SS → Int32 → Prop) (h : wp_X2_lengthAbove σ p0 x1 K) : mtZ l yX2_lengthAbove wsX2_lengthAbove (rm9 0 0) Z [.ref (zq Z p0), .int x1] σ sz (qcI Z K sz) := by
  refine Met.ofW (cc := cX2_lengthAbove) (maxL := 3) (ret := (some .int)) (by decide) rfl ?_
  intro p e s m args below meth c s₁ B hml hv
  obtain ⟨hargs, hsz, hP, hE1, hE2, hE3⟩ := hv
  subst hsz
  have hE : envZ Z s := ⟨hE1, hE2, hE3⟩
  have hx := B.exec
  have hb := B.bytes
  have hr := B.returns
  have hlocks := B.notSynchronized
  have hts := atoms_spec (ws := wsX2_lengthAbove) B.pre
  have hown : s.vm.findClass RX2 = some m.cls := findClass_of_methodNamed B.named
  have hS : SZ Z s s.heap [] := va_S.rf
  obtain ⟨ls, hef, hl⟩ := z_entry m hargs (n := 3) (Nat.le_of_ble_eq_true rfl)
  rw [hef]
  have hl : lv_has ls 3 [(0, .ref (zq Z p0)), (1, .int x1)] := hl
  have in2 : ∀ w ∈ u_ws RX2 TX2 2, w ∈ wsX2_lengthAbove := by decide +kernel
  have lk15 := hts (.fieldLink RX2 15 "BeatDoubts$RankedGaps" "size" "I") (by decide +kernel)
  have lk9 := hts (.fieldLink RX2 9 "BeatDoubts$RankedGaps" "row" "[I") (by decide +kernel)
  unfold wp_X2_lengthAbove at h
  refine lv_iload_n hx hb dX2_lengthAbove_0 rfl (lv_at hl 1 rfl) ?_
  refine lv_aload_n hx hb dX2_lengthAbove_1 rfl (lv_at hl 0 rfl) ?_
  refine fg_2_1 hZ hx hb hts in2 hown hE hP hk0 lk15 dX2_lengthAbove_2 ?_
  refine lv_imul hx hb dX2_lengthAbove_5 ?_
  refine lv_bipush (v := 9) hx hb dX2_lengthAbove_6 (by decide) ?_
  refine lv_iadd hx hb dX2_lengthAbove_8 ?_
  refine lv_bipush (v := 10) hx hb dX2_lengthAbove_9 (by decide) ?_
  refine lv_idiv hx hb dX2_lengthAbove_11 (by decide) ?_
  refine lv_istore_n (lv' := [(2, .int (((x1 * (gI σ p0 1)) + 9) / 10)), (0, .ref (zq Z p0)), (1, .int x1)]) hx hb dX2_lengthAbove_12 rfl hl (by decide) rfl (fun ls hl => ?_)
  refine lv_iload_n hx hb dX2_lengthAbove_13 rfl (lv_at hl 0 rfl) ?_
  refine lv_iconst (v := 1) hx hb dX2_lengthAbove_14 (by decide) ?_
  refine lv_icmp_lt (tgt := 39) hx hb dX2_lengthAbove_15 (by decide) (fun hc => ?_) (fun hc => ?_)
  · have h := h.1 hc
    refine lv_iconst (v := (-1)) hx hb dX2_lengthAbove_39 (by decide) ?_
    exact zr_I hx hb hr hlocks hP hS h dX2_lengthAbove_40
  · have h := h.2 hc
    refine lv_iload_n hx hb dX2_lengthAbove_18 rfl (lv_at hl 0 rfl) ?_
    refine lv_aload_n hx hb dX2_lengthAbove_19 rfl (lv_at hl 1 rfl) ?_
    refine fg_2_1 hZ hx hb hts in2 hown hE hP hk0 lk15 dX2_lengthAbove_20 ?_
    refine lv_icmp_gt (tgt := 39) hx hb dX2_lengthAbove_23 (by decide) (fun hc => ?_) (fun hc => ?_)
    · have h := h.1 hc
      refine lv_iconst (v := (-1)) hx hb dX2_lengthAbove_39 (by decide) ?_
      exact zr_I hx hb hr hlocks hP hS h dX2_lengthAbove_40
    · have h := h.2 hc
      refine lv_aload_n hx hb dX2_lengthAbove_26 rfl (lv_at hl 1 rfl) ?_
      refine fg_2_0 hZ hx hb hts in2 hown hE hP hk0 lk9 dX2_lengthAbove_27 ?_
      refine lv_iload_n hx hb dX2_lengthAbove_30 rfl (lv_at hl 0 rfl) ?_
      refine lv_iconst (v := 1) hx hb dX2_lengthAbove_31 (by decide) ?_
      refine lv_isub hx hb dX2_lengthAbove_32 ?_
      obtain ⟨hin, h⟩ := h
      refine al_11 hZ hx hb hE hP (kr_2_0 hk0) hin dX2_lengthAbove_33 ?_
      refine lv_iconst (v := 1) hx hb dX2_lengthAbove_34 (by decide) ?_
      refine lv_iadd hx hb dX2_lengthAbove_35 ?_
      refine lv_goto (tgt := 40) hx hb dX2_lengthAbove_36 (by decide) ?_
      exact zr_I hx hb hr hlocks hP hS h dX2_lengthAbove_40
theorem hd_X1_beginOfDoubt : yX1_beginOfDoubt.cls = RX1 ∧ yX1_beginOfDoubt.cls ≠ "java/lang/invoke/MethodHandle" ∧ yX1_beginOfDoubt.cls ≠ "java/lang/invoke/VarHandle" ∧ (parseMethodDescriptor yX1_beginOfDoubt.desc).map (fun d => d.parameters.length) = some 4 := by decide +kernel
set_option maxHeartbeats 4000000 in
set_option maxRecDepth 100000 in
theorem mt_X1_beginOfDoubt (l : Launch) {Z : ZW} (hZ : isC Z) (σ : SS) (sz : Nat) {p0 : Nat} {p1 : Nat} (hk0 : kd p0 = 1) (hk1 : kd p1 = 0) (x2 : Int32) (x3 : Int32) (x4 : Int32) (K : SS → Int32 → Prop) (h : wp_X1_beginOfDoubt σ p0 p1 x2 x3 x4 K) : mtZ l yX1_beginOfDoubt wsX1_beginOfDoubt (rm9 1 22) Z [.ref (zq Z p0), .ref (zq Z p1), .int x2, .int x3, .int x4] σ sz (qcI Z K sz) := by
  refine Met.ofW (cc := cX1_beginOfDoubt) (maxL := 7) (ret := (some .int)) (by decide) rfl ?_
  intro p e s m args below meth c s₁ B hml hv
  obtain ⟨hargs, hsz, hP, hE1, hE2, hE3⟩ := hv
  subst hsz
  have hE : envZ Z s := ⟨hE1, hE2, hE3⟩
  have hx := B.exec
  have hb := B.bytes
  have hr := B.returns
  have hlocks := B.notSynchronized
  have hts := atoms_spec (ws := wsX1_beginOfDoubt) B.pre
  have hown : s.vm.findClass RX1 = some m.cls := findClass_of_methodNamed B.named
  have hS : SZ Z s s.heap [] := va_S.rf
  obtain ⟨ls, hef, hl⟩ := z_entry m hargs (n := 7) (Nat.le_of_ble_eq_true rfl)
  rw [hef]
  have hl : lv_has ls 7 [(0, .ref (zq Z p0)), (1, .ref (zq Z p1)), (2, .int x2), (3, .int x3), (4, .int x4)] := hl
  have in0 : ∀ w ∈ u_ws RX0 TX0 10, w ∈ wsX1_beginOfDoubt := by decide +kernel
  have in1 : ∀ w ∈ u_ws RX1 TX1 8, w ∈ wsX1_beginOfDoubt := by decide +kernel
  have cdmax := hts (.code Lib.Math.max.name Lib.Math.max.code 2 (some .int)) (by decide +kernel)
  have inM := hts (.initialized "java/lang/Math") (by decide +kernel)
  have lk21 := hts (.fieldLink RX1 21 "BeatDoubts$Diary" "gaps" "LBeatDoubts$RankedGaps;") (by decide +kernel)
  have lk25 := hts (.fieldLink RX1 25 "BeatDoubts$Diary" "mistakeCount" "I") (by decide +kernel)
  have lk46 := hts (.fieldLink RX1 46 "BeatDoubts$Arrivals" "timeOfNews" "[I") (by decide +kernel)
  have lk66 := hts (.methodLink RX1 66 Lib.Math.max.name) (by decide +kernel)
  have lk76 := hts (.fieldLink RX1 76 "BeatDoubts$Arrivals" "wholeBy" "[I") (by decide +kernel)
  have stmax := hts (.static Lib.Math.max.name) (by decide +kernel)
  unfold wp_X1_beginOfDoubt at h
  refine lv_aload_n hx hb dX1_beginOfDoubt_0 rfl (lv_at hl 1 rfl) ?_
  refine fg_0_3 hZ hx hb hts in0 hown hE hP hk1 lk46 dX1_beginOfDoubt_1 ?_
  refine lv_iload_n hx hb dX1_beginOfDoubt_4 rfl (lv_at hl 2 rfl) ?_
  obtain ⟨hin, h⟩ := h
  refine al_10 hZ hx hb hE hP (kr_0_3 hk1) hin dX1_beginOfDoubt_5 ?_
  refine lv_istore (lv' := [(5, .int (gA σ (p1 + 4) x2.toNatClampNeg)), (0, .ref (zq Z p0)), (1, .ref (zq Z p1)), (2, .int x2), (3, .int x3), (4, .int x4)]) hx hb dX1_beginOfDoubt_6 hl (by decide) rfl (fun ls hl => ?_)
  refine lv_iload_n hx hb dX1_beginOfDoubt_8 rfl (lv_at hl 4 rfl) ?_
  by_cases hc0 : x3 = 0
  · have h := h.1 hc0
    refine lv_tableIn (tgt := 36) hx hb dX1_beginOfDoubt_9 (by rw [hc0] <;> decide) (by rw [hc0] <;> decide) (by rw [hc0] <;> rfl) (by decide) ?_
    refine lv_iload hx hb dX1_beginOfDoubt_36 (lv_at hl 0 rfl) ?_
    refine lv_aload_n hx hb dX1_beginOfDoubt_38 rfl (lv_at hl 2 rfl) ?_
    refine fg_0_6 hZ hx hb hts in0 hown hE hP hk1 lk76 dX1_beginOfDoubt_39 ?_
    refine lv_iload_n hx hb dX1_beginOfDoubt_42 rfl (lv_at hl 3 rfl) ?_
    obtain ⟨hin, h⟩ := h
    refine al_10 hZ hx hb hE hP (kr_0_6 hk1) hin dX1_beginOfDoubt_43 ?_
    refine lv_iload hx hb dX1_beginOfDoubt_44 (lv_at hl 5 rfl) ?_
    refine lv_iadd hx hb dX1_beginOfDoubt_46 ?_
    refine va_mmax hx hb (hml.trans hl.1.symm) hown lk66 stmax inM cdmax (Nat.le_of_ble_eq_true rfl) (Nat.le_of_ble_eq_true rfl) (Nat.zero_le _) (Nat.zero_le _) dX1_beginOfDoubt_47 ?_
    exact zr_I hx hb hr hlocks hP hS h dX1_beginOfDoubt_50
  by_cases hc1 : x3 = 1
  · have h := h.2.1 hc1
    refine lv_tableIn (tgt := 51) hx hb dX1_beginOfDoubt_9 (by rw [hc1] <;> decide) (by rw [hc1] <;> decide) (by rw [hc1] <;> rfl) (by decide) ?_
    refine lv_aload_n hx hb dX1_beginOfDoubt_51 rfl (lv_at hl 1 rfl) ?_
    refine fg_1_2 hZ hx hb hts in1 hown hE hP hk0 lk21 dX1_beginOfDoubt_52 ?_
    refine lv_iload hx hb dX1_beginOfDoubt_55 (lv_at hl 5 rfl) ?_
    refine zc_VI (As := [.int x4]) (rest := []) ⟨hx, hb, hml, hown, hts⟩ (cwV 1 hts gX1_beginOfDoubt_X2_lengthAbove rfl rfl rfl hd_X2_lengthAbove ⟨Nat.le_of_ble_eq_true rfl, Nat.le_of_ble_eq_true rfl⟩) (mt_X2_lengthAbove l hZ σ _ (kr_1_2 hk0) x4 _ h) (rc_2 hZ hE hP (kr_1_2 hk0)) hE hP hS rfl hl.1 rfl (Nat.le_of_ble_eq_true rfl) dX1_beginOfDoubt_57 ⟨Nat.zero_le _, Nat.zero_le _⟩ (fun r57 σ57 H locs h hP hS => ?_)
    refine lv_istore (lv' := [(6, .int r57), (5, .int (gA σ (p1 + 4) x2.toNatClampNeg)), (0, .ref (zq Z p0)), (1, .ref (zq Z p1)), (2, .int x2), (3, .int x3), (4, .int x4)]) hx hb dX1_beginOfDoubt_60 hl (by decide) rfl (fun ls hl => ?_)
    refine lv_iload hx hb dX1_beginOfDoubt_62 (lv_at hl 0 rfl) ?_
    refine lv_iconst (v := (-1)) hx hb dX1_beginOfDoubt_64 (by decide) ?_
    refine lv_icmp_ne (tgt := 72) hx hb dX1_beginOfDoubt_65 (by decide) (fun hc => ?_) (fun hc => ?_)
    · have h := h.1 hc
      refine lv_iload hx hb dX1_beginOfDoubt_72 (lv_at hl 1 rfl) ?_
      refine lv_iload hx hb dX1_beginOfDoubt_74 (lv_at hl 0 rfl) ?_
      refine lv_iadd hx hb dX1_beginOfDoubt_76 ?_
      exact zr_I hx hb hr hlocks hP hS h dX1_beginOfDoubt_77
    · have h := h.2 hc
      refine lv_iconst (v := (-1)) hx hb dX1_beginOfDoubt_68 (by decide) ?_
      refine lv_goto (tgt := 77) hx hb dX1_beginOfDoubt_69 (by decide) ?_
      exact zr_I hx hb hr hlocks hP hS h dX1_beginOfDoubt_77
  by_cases hc2 : x3 = 2
  · have h := h.2.2.1 hc2
    refine lv_tableIn (tgt := 78) hx hb dX1_beginOfDoubt_9 (by rw [hc2] <;> decide) (by rw [hc2] <;> decide) (by rw [hc2] <;> rfl) (by decide) ?_
    refine lv_iload hx hb dX1_beginOfDoubt_78 (lv_at hl 0 rfl) ?_
    refine lv_iload hx hb dX1_beginOfDoubt_80 (lv_at hl 5 rfl) ?_
    refine lv_iadd hx hb dX1_beginOfDoubt_82 ?_
    exact zr_I hx hb hr hlocks hP hS h dX1_beginOfDoubt_83
  have h := h.2.2.2 hc0 hc1 hc2
  refine lv_tableOut (tgt := 84) hx hb dX1_beginOfDoubt_9 (tsw3 hc0 hc1 hc2) (by decide) ?_
  refine lv_iload hx hb dX1_beginOfDoubt_84 (lv_at hl 0 rfl) ?_
  refine lv_aload_n hx hb dX1_beginOfDoubt_86 rfl (lv_at hl 2 rfl) ?_
  refine fg_0_6 hZ hx hb hts in0 hown hE hP hk1 lk76 dX1_beginOfDoubt_87 ?_
  refine lv_iload_n hx hb dX1_beginOfDoubt_90 rfl (lv_at hl 3 rfl) ?_
  obtain ⟨hin, h⟩ := h
  refine al_10 hZ hx hb hE hP (kr_0_6 hk1) hin dX1_beginOfDoubt_91 ?_
  refine lv_iload hx hb dX1_beginOfDoubt_92 (lv_at hl 5 rfl) ?_
  refine lv_aload_n hx hb dX1_beginOfDoubt_94 rfl (lv_at hl 1 rfl) ?_
  refine fg_1_3 hZ hx hb hts in1 hown hE hP hk0 lk25 dX1_beginOfDoubt_95 ?_
  refine lv_iconst (v := 1) hx hb dX1_beginOfDoubt_98 (by decide) ?_
  refine lv_iadd hx hb dX1_beginOfDoubt_99 ?_
  refine lv_imul hx hb dX1_beginOfDoubt_100 ?_
  refine lv_iadd hx hb dX1_beginOfDoubt_101 ?_
  refine va_mmax hx hb (hml.trans hl.1.symm) hown lk66 stmax inM cdmax (Nat.le_of_ble_eq_true rfl) (Nat.le_of_ble_eq_true rfl) (Nat.zero_le _) (Nat.zero_le _) dX1_beginOfDoubt_102 ?_
  exact zr_I hx hb hr hlocks hP hS h dX1_beginOfDoubt_105
theorem hd_X1_noteDoubt : yX1_noteDoubt.cls = RX1 ∧ yX1_noteDoubt.cls ≠ "java/lang/invoke/MethodHandle" ∧ yX1_noteDoubt.cls ≠ "java/lang/invoke/VarHandle" ∧ (parseMethodDescriptor yX1_noteDoubt.desc).map (fun d => d.parameters.length) = some 3 := by decide +kernel
set_option maxHeartbeats 4000000 in
set_option maxRecDepth 100000 in
theorem mt_X1_noteDoubt (l : Launch) {Z : ZW} (hZ : isC Z) (σ : SS) (sz : Nat) {p0 : Nat} {p1 : Nat} (hk0 : kd p0 = 1) (hk1 : kd p1 = 0) (x2 : Int32) (x3 : Int32) (K : SS → Prop) (h : wp_X1_noteDoubt σ p0 p1 x2 x3 K) : mtZ l yX1_noteDoubt wsX1_noteDoubt (rm9 1 21) Z [.ref (zq Z p0), .ref (zq Z p1), .int x2, .int x3] σ sz (qcV Z K sz) := by
  refine Met.ofW (cc := cX1_noteDoubt) (maxL := 5) (ret := none) (by decide) rfl ?_
  intro p e s m args below meth c s₁ B hml hv
  obtain ⟨hargs, hsz, hP, hE1, hE2, hE3⟩ := hv
  subst hsz
  have hE : envZ Z s := ⟨hE1, hE2, hE3⟩
  have hx := B.exec
  have hb := B.bytes
  have hr := B.returns
  have hlocks := B.notSynchronized
  have hts := atoms_spec (ws := wsX1_noteDoubt) B.pre
  have hown : s.vm.findClass RX1 = some m.cls := findClass_of_methodNamed B.named
  have hS : SZ Z s s.heap [] := va_S.rf
  obtain ⟨ls, hef, hl⟩ := z_entry m hargs (n := 5) (Nat.le_of_ble_eq_true rfl)
  rw [hef]
  have hl : lv_has ls 5 [(0, .ref (zq Z p0)), (1, .ref (zq Z p1)), (2, .int x2), (3, .int x3)] := hl
  have in0 : ∀ w ∈ u_ws RX0 TX0 10, w ∈ wsX1_noteDoubt := by decide +kernel
  have in1 : ∀ w ∈ u_ws RX1 TX1 8, w ∈ wsX1_noteDoubt := by decide +kernel
  have cdmax := hts (.code Lib.Math.max.name Lib.Math.max.code 2 (some .int)) (by decide +kernel)
  have inM := hts (.initialized "java/lang/Math") (by decide +kernel)
  have lk15 := hts (.fieldLink RX1 15 "BeatDoubts$Diary" "newsOfMistake" "[I") (by decide +kernel)
  have lk25 := hts (.fieldLink RX1 25 "BeatDoubts$Diary" "mistakeCount" "I") (by decide +kernel)
  have lk29 := hts (.fieldLink RX1 29 "BeatDoubts$Diary" "timeMistaken" "I") (by decide +kernel)
  have lk32 := hts (.fieldLink RX1 32 "BeatDoubts$Diary" "longestMistake" "I") (by decide +kernel)
  have lk38 := hts (.fieldLink RX1 38 "BeatDoubts$Diary" "doubtForGood" "I") (by decide +kernel)
  have lk41 := hts (.fieldLink RX1 41 "BeatDoubts$Arrivals" "newsCount" "I") (by decide +kernel)
  have lk46 := hts (.fieldLink RX1 46 "BeatDoubts$Arrivals" "timeOfNews" "[I") (by decide +kernel)
  have lk66 := hts (.methodLink RX1 66 Lib.Math.max.name) (by decide +kernel)
  have stmax := hts (.static Lib.Math.max.name) (by decide +kernel)
  unfold wp_X1_noteDoubt at h
  refine lv_iload_n hx hb dX1_noteDoubt_0 rfl (lv_at hl 2 rfl) ?_
  refine lv_iconst (v := 1) hx hb dX1_noteDoubt_1 (by decide) ?_
  refine lv_iadd hx hb dX1_noteDoubt_2 ?_
  refine lv_aload_n hx hb dX1_noteDoubt_3 rfl (lv_at hl 1 rfl) ?_
  refine fg_0_7 hZ hx hb hts in0 hown hE hP hk1 lk41 dX1_noteDoubt_4 ?_
  refine lv_icmp_lt (tgt := 16) hx hb dX1_noteDoubt_7 (by decide) (fun hc => ?_) (fun hc => ?_)
  · have h := h.1 hc
    refine lv_aload_n hx hb dX1_noteDoubt_16 rfl (lv_at hl 1 rfl) ?_
    refine fg_0_3 hZ hx hb hts in0 hown hE hP hk1 lk46 dX1_noteDoubt_17 ?_
    refine lv_iload_n hx hb dX1_noteDoubt_20 rfl (lv_at hl 2 rfl) ?_
    refine lv_iconst (v := 1) hx hb dX1_noteDoubt_21 (by decide) ?_
    refine lv_iadd hx hb dX1_noteDoubt_22 ?_
    obtain ⟨hin, h⟩ := h
    refine al_10 hZ hx hb hE hP (kr_0_3 hk1) hin dX1_noteDoubt_23 ?_
    refine lv_iload_n hx hb dX1_noteDoubt_24 rfl (lv_at hl 3 rfl) ?_
    refine lv_isub hx hb dX1_noteDoubt_25 ?_
    refine lv_istore (lv' := [(4, .int ((gA σ (p1 + 4) (x2 + 1).toNatClampNeg) - x3)), (0, .ref (zq Z p0)), (1, .ref (zq Z p1)), (2, .int x2), (3, .int x3)]) hx hb dX1_noteDoubt_26 hl (by decide) rfl (fun ls hl => ?_)
    refine lv_iload hx hb dX1_noteDoubt_28 (lv_at hl 0 rfl) ?_
    refine lv_if_le (tgt := 77) hx hb dX1_noteDoubt_30 (by decide) (fun hc => ?_) (fun hc => ?_)
    · have h := h.1 hc
      exact zr_V hx hb hr hlocks hP hS h dX1_noteDoubt_77
    · have h := h.2 hc
      refine lv_aload_n hx hb dX1_noteDoubt_33 rfl (lv_at hl 1 rfl) ?_
      refine fg_1_1 hZ hx hb hts in1 hown hE hP hk0 lk15 dX1_noteDoubt_34 ?_
      refine lv_aload_n hx hb dX1_noteDoubt_37 rfl (lv_at hl 1 rfl) ?_
      refine fg_1_3 hZ hx hb hts in1 hown hE hP hk0 lk25 dX1_noteDoubt_38 ?_
      refine lv_iload_n hx hb dX1_noteDoubt_41 rfl (lv_at hl 3 rfl) ?_
      obtain ⟨hin, h⟩ := h
      refine as_10 hZ hx hb hE hP hS (kr_1_1 hk0) hin dX1_noteDoubt_42 (fun H locs hP hS => ?_)
      refine lv_aload_n hx hb dX1_noteDoubt_43 rfl (lv_at hl 1 rfl) ?_
      refine lv_dup hx hb dX1_noteDoubt_44 rfl ?_
      refine fg_1_3 hZ hx hb hts in1 hown hE hP hk0 lk25 dX1_noteDoubt_45 ?_
      refine lv_iconst (v := 1) hx hb dX1_noteDoubt_48 (by decide) ?_
      refine lv_iadd hx hb dX1_noteDoubt_49 ?_
      refine fp_1_3 hZ hx hb hts in1 hown hE hP hS hk0 lk25 dX1_noteDoubt_50 (fun H locs hP hS => ?_)
      refine lv_aload_n hx hb dX1_noteDoubt_53 rfl (lv_at hl 1 rfl) ?_
      refine lv_dup hx hb dX1_noteDoubt_54 rfl ?_
      refine fg_1_4 hZ hx hb hts in1 hown hE hP hk0 lk29 dX1_noteDoubt_55 ?_
      refine lv_iload hx hb dX1_noteDoubt_58 (lv_at hl 0 rfl) ?_
      refine lv_iadd hx hb dX1_noteDoubt_60 ?_
      refine fp_1_4 hZ hx hb hts in1 hown hE hP hS hk0 lk29 dX1_noteDoubt_61 (fun H locs hP hS => ?_)
      refine lv_aload_n hx hb dX1_noteDoubt_64 rfl (lv_at hl 1 rfl) ?_
      refine lv_aload_n hx hb dX1_noteDoubt_65 rfl (lv_at hl 1 rfl) ?_
      refine fg_1_5 hZ hx hb hts in1 hown hE hP hk0 lk32 dX1_noteDoubt_66 ?_
      refine lv_iload hx hb dX1_noteDoubt_69 (lv_at hl 0 rfl) ?_
      refine va_mmax hx hb (hml.trans hl.1.symm) hown lk66 stmax inM cdmax (Nat.le_of_ble_eq_true rfl) (Nat.le_of_ble_eq_true rfl) (Nat.zero_le _) (Nat.zero_le _) dX1_noteDoubt_71 ?_
      refine fp_1_5 hZ hx hb hts in1 hown hE hP hS hk0 lk32 dX1_noteDoubt_74 (fun H locs hP hS => ?_)
      exact zr_V hx hb hr hlocks hP hS h dX1_noteDoubt_77
  · have h := h.2 hc
    refine lv_aload_n hx hb dX1_noteDoubt_10 rfl (lv_at hl 0 rfl) ?_
    refine lv_iload_n hx hb dX1_noteDoubt_11 rfl (lv_at hl 3 rfl) ?_
    refine fp_1_7 hZ hx hb hts in1 hown hE hP hS hk0 lk38 dX1_noteDoubt_12 (fun H locs hP hS => ?_)
    exact zr_V hx hb hr hlocks hP hS h dX1_noteDoubt_15
