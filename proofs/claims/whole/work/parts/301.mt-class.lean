theorem hd_X2_takeIn : yX2_takeIn.cls = RX2 ∧ yX2_takeIn.cls ≠ "java/lang/invoke/MethodHandle" ∧ yX2_takeIn.cls ≠ "java/lang/invoke/VarHandle" ∧ (parseMethodDescriptor yX2_takeIn.desc).map (fun d => d.parameters.length) = some 1 := by decide +kernel
set_option maxHeartbeats 4000000 in
set_option maxRecDepth 100000 in
theorem mt_X2_takeIn (l : Launch) {Z : ZW} (hZ : isC Z) (σ : SS) (sz : Nat) {p0 : Nat} (hk0 : kd p0 = 2) (x1 : Int32) (K : SS → Prop) (h : wp_X2_takeIn σ p0 x1 K) : mtZ l yX2_takeIn wsX2_takeIn (rm9 0 0) Z [.ref (zq Z p0), .int x1] σ sz (qcV Z K sz) := by
  refine Met.ofW (cc := cX2_takeIn) (maxL := 3) (ret := none) (by decide) rfl ?_
  intro p e s m args below meth c s₁ B hml hv
  obtain ⟨hargs, hsz, hP, hE1, hE2, hE3⟩ := hv
  subst hsz
  have hE : envZ Z s := ⟨hE1, hE2, hE3⟩
  have hx := B.exec
  have hb := B.bytes
  have hr := B.returns
  have hlocks := B.notSynchronized
  have hts := atoms_spec (ws := wsX2_takeIn) B.pre
  have hown : s.vm.findClass RX2 = some m.cls := findClass_of_methodNamed B.named
  have hS : SZ Z s s.heap [] := va_S.rf
  obtain ⟨ls, hef, hl⟩ := z_entry m hargs (n := 3) (Nat.le_of_ble_eq_true rfl)
  rw [hef]
  have hl : lv_has ls 3 [(0, .ref (zq Z p0)), (1, .int x1)] := hl
  have in2 : ∀ w ∈ u_ws RX2 TX2 2, w ∈ wsX2_takeIn := by decide +kernel
  have lk15 := hts (.fieldLink RX2 15 "BeatDoubts$RankedGaps" "size" "I") (by decide +kernel)
  have lk9 := hts (.fieldLink RX2 9 "BeatDoubts$RankedGaps" "row" "[I") (by decide +kernel)
  have B54 : ∀ (σ : SS) (x1 : Int32) (x2 : Int32) (H : Heap) (locs : List Loc) (ls : Array Slot), bl_X2_takeIn_54 K p0 σ x1 x2 → PZ Z σ H → SZ Z s H locs → lv_has ls 3 [(0, .ref (zq Z p0)), (1, .int x1), (2, .int x2)] → W p l e (headSpec wsX2_takeIn (rm9 0 0)).room s m args below meth c H locs 0 0 (MQ below (qcV Z K s.heap.size) args s 0 0 (aZ Z s.heap.size)) (F0 m 54 ls []) := by
    intro σ x1 x2 H locs ls h hP hS hl
    unfold bl_X2_takeIn_54 at h
    refine lv_aload_n hx hb dX2_takeIn_54 rfl (lv_at hl 0 rfl) ?_
    refine fg_2_0 hZ hx hb hts in2 hown hE hP hk0 lk9 dX2_takeIn_55 ?_
    refine lv_iload_n hx hb dX2_takeIn_58 rfl (lv_at hl 2 rfl) ?_
    refine lv_iload_n hx hb dX2_takeIn_59 rfl (lv_at hl 1 rfl) ?_
    obtain ⟨hin, h⟩ := h
    refine as_11 hZ hx hb hE hP hS (kr_2_0 hk0) hin dX2_takeIn_60 (fun H locs hP hS => ?_)
    refine lv_aload_n hx hb dX2_takeIn_61 rfl (lv_at hl 0 rfl) ?_
    refine lv_dup hx hb dX2_takeIn_62 rfl ?_
    refine fg_2_1 hZ hx hb hts in2 hown hE hP hk0 lk15 dX2_takeIn_63 ?_
    refine lv_iconst (v := 1) hx hb dX2_takeIn_66 (by decide) ?_
    refine lv_iadd hx hb dX2_takeIn_67 ?_
    refine fp_2_1 hZ hx hb hts in2 hown hE hP hS hk0 lk15 dX2_takeIn_68 (fun H locs hP hS => ?_)
    exact zr_V hx hb hr hlocks hP hS h dX2_takeIn_71
  have B18 : ∀ (n : Nat) (σ : SS) (x1 : Int32) (x2 : Int32) (H : Heap) (locs : List Loc) (ls : Array Slot), fx3 (lb_X2_takeIn_18 K p0) n σ x1 x2 → PZ Z σ H → SZ Z s H locs → lv_has ls 3 [(0, .ref (zq Z p0)), (1, .int x1), (2, .int x2)] → W p l e (headSpec wsX2_takeIn (rm9 0 0)).room s m args below meth c H locs 0 0 (MQ below (qcV Z K s.heap.size) args s 0 0 (aZ Z s.heap.size)) (F0 m 18 ls []) := by
    intro n18
    induction n18 with
    | zero => intro σ x1 x2 H locs ls h; exact h.elim
    | succ n18 ih18 =>
      intro σ x1 x2 H locs ls h hP hS hl
      have h : lb_X2_takeIn_18 K p0 (fx3 (lb_X2_takeIn_18 K p0) n18) σ x1 x2 := h
      unfold lb_X2_takeIn_18 at h
      refine lv_iload_n hx hb dX2_takeIn_18 rfl (lv_at hl 2 rfl) ?_
      refine lv_if_le (tgt := 54) hx hb dX2_takeIn_19 (by decide) (fun hc => ?_) (fun hc => ?_)
      · have h := h.1 hc
        exact B54 σ x1 x2 _ _ _ h hP hS (lv_sub hl [0, 1, 2] rfl)
      · have h := h.2 hc
        refine lv_aload_n hx hb dX2_takeIn_22 rfl (lv_at hl 0 rfl) ?_
        refine fg_2_0 hZ hx hb hts in2 hown hE hP hk0 lk9 dX2_takeIn_23 ?_
        refine lv_iload_n hx hb dX2_takeIn_26 rfl (lv_at hl 2 rfl) ?_
        refine lv_iconst (v := 1) hx hb dX2_takeIn_27 (by decide) ?_
        refine lv_isub hx hb dX2_takeIn_28 ?_
        obtain ⟨hin, h⟩ := h
        refine al_11 hZ hx hb hE hP (kr_2_0 hk0) hin dX2_takeIn_29 ?_
        refine lv_iload_n hx hb dX2_takeIn_30 rfl (lv_at hl 1 rfl) ?_
        refine lv_icmp_le (tgt := 54) hx hb dX2_takeIn_31 (by decide) (fun hc => ?_) (fun hc => ?_)
        · have h := h.1 hc
          exact B54 σ x1 x2 _ _ _ h hP hS (lv_sub hl [0, 1, 2] rfl)
        · have h := h.2 hc
          refine lv_aload_n hx hb dX2_takeIn_34 rfl (lv_at hl 0 rfl) ?_
          refine fg_2_0 hZ hx hb hts in2 hown hE hP hk0 lk9 dX2_takeIn_35 ?_
          refine lv_iload_n hx hb dX2_takeIn_38 rfl (lv_at hl 2 rfl) ?_
          refine lv_aload_n hx hb dX2_takeIn_39 rfl (lv_at hl 0 rfl) ?_
          refine fg_2_0 hZ hx hb hts in2 hown hE hP hk0 lk9 dX2_takeIn_40 ?_
          refine lv_iload_n hx hb dX2_takeIn_43 rfl (lv_at hl 2 rfl) ?_
          refine lv_iconst (v := 1) hx hb dX2_takeIn_44 (by decide) ?_
          refine lv_isub hx hb dX2_takeIn_45 ?_
          obtain ⟨hin, h⟩ := h
          refine al_11 hZ hx hb hE hP (kr_2_0 hk0) hin dX2_takeIn_46 ?_
          obtain ⟨hin, h⟩ := h
          refine as_11 hZ hx hb hE hP hS (kr_2_0 hk0) hin dX2_takeIn_47 (fun H locs hP hS => ?_)
          refine lv_iinc (v := (x2 + (-1))) (lv' := [(2, .int (x2 + (-1))), (0, .ref (zq Z p0)), (1, .int x1)]) hx hb dX2_takeIn_48 hl (k := 2) rfl rfl (by decide) rfl (fun ls hl => ?_)
          refine lv_goto (tgt := 18) hx hb dX2_takeIn_51 (by decide) ?_
          exact ih18 (sA σ (p0 + 1) x2.toNatClampNeg (gA σ (p0 + 1) (x2 - 1).toNatClampNeg)) x1 (x2 + (-1)) _ _ _ h hP hS (lv_sub hl [1, 2, 0] rfl)
  unfold wp_X2_takeIn at h
  refine lv_aload_n hx hb dX2_takeIn_0 rfl (lv_at hl 0 rfl) ?_
  refine fg_2_1 hZ hx hb hts in2 hown hE hP hk0 lk15 dX2_takeIn_1 ?_
  refine lv_aload_n hx hb dX2_takeIn_4 rfl (lv_at hl 0 rfl) ?_
  refine fg_2_0 hZ hx hb hts in2 hown hE hP hk0 lk9 dX2_takeIn_5 ?_
  refine an_11 hZ hx hb hE hP (kr_2_0 hk0) dX2_takeIn_8 ?_
  refine lv_icmp_lt (tgt := 13) hx hb dX2_takeIn_9 (by decide) (fun hc => ?_) (fun hc => ?_)
  · have h := h.1 hc
    refine lv_aload_n hx hb dX2_takeIn_13 rfl (lv_at hl 0 rfl) ?_
    refine fg_2_1 hZ hx hb hts in2 hown hE hP hk0 lk15 dX2_takeIn_14 ?_
    refine lv_istore_n (lv' := [(2, .int (gI σ p0 1)), (0, .ref (zq Z p0)), (1, .int x1)]) hx hb dX2_takeIn_17 rfl hl (by decide) rfl (fun ls hl => ?_)
    obtain ⟨n, h⟩ := h
    exact B18 n σ x1 (gI σ p0 1) _ _ _ h hP hS (lv_sub hl [1, 2, 0] rfl)
  · have h := h.2 hc
    exact zr_V hx hb hr hlocks hP hS h dX2_takeIn_12
theorem hd_X2_takeOut : yX2_takeOut.cls = RX2 ∧ yX2_takeOut.cls ≠ "java/lang/invoke/MethodHandle" ∧ yX2_takeOut.cls ≠ "java/lang/invoke/VarHandle" ∧ (parseMethodDescriptor yX2_takeOut.desc).map (fun d => d.parameters.length) = some 1 := by decide +kernel
set_option maxHeartbeats 4000000 in
set_option maxRecDepth 100000 in
theorem mt_X2_takeOut (l : Launch) {Z : ZW} (hZ : isC Z) (σ : SS) (sz : Nat) {p0 : Nat} (hk0 : kd p0 = 2) (x1 : Int32) (K : SS → Prop) (h : wp_X2_takeOut σ p0 x1 K) : mtZ l yX2_takeOut wsX2_takeOut (rm9 0 0) Z [.ref (zq Z p0), .int x1] σ sz (qcV Z K sz) := by
  refine Met.ofW (cc := cX2_takeOut) (maxL := 4) (ret := none) (by decide) rfl ?_
  intro p e s m args below meth c s₁ B hml hv
  obtain ⟨hargs, hsz, hP, hE1, hE2, hE3⟩ := hv
  subst hsz
  have hE : envZ Z s := ⟨hE1, hE2, hE3⟩
  have hx := B.exec
  have hb := B.bytes
  have hr := B.returns
  have hlocks := B.notSynchronized
  have hts := atoms_spec (ws := wsX2_takeOut) B.pre
  have hown : s.vm.findClass RX2 = some m.cls := findClass_of_methodNamed B.named
  have hS : SZ Z s s.heap [] := va_S.rf
  obtain ⟨ls, hef, hl⟩ := z_entry m hargs (n := 4) (Nat.le_of_ble_eq_true rfl)
  rw [hef]
  have hl : lv_has ls 4 [(0, .ref (zq Z p0)), (1, .int x1)] := hl
  have in2 : ∀ w ∈ u_ws RX2 TX2 2, w ∈ wsX2_takeOut := by decide +kernel
  have lk15 := hts (.fieldLink RX2 15 "BeatDoubts$RankedGaps" "size" "I") (by decide +kernel)
  have lk9 := hts (.fieldLink RX2 9 "BeatDoubts$RankedGaps" "row" "[I") (by decide +kernel)
  have B39 : ∀ (n : Nat) (σ : SS) (x3 : Int32) (H : Heap) (locs : List Loc) (ls : Array Slot), fx2 (lb_X2_takeOut_39 K p0) n σ x3 → PZ Z σ H → SZ Z s H locs → lv_has ls 4 [(0, .ref (zq Z p0)), (3, .int x3)] → W p l e (headSpec wsX2_takeOut (rm9 0 0)).room s m args below meth c H locs 0 0 (MQ below (qcV Z K s.heap.size) args s 0 0 (aZ Z s.heap.size)) (F0 m 39 ls []) := by
    intro n39
    induction n39 with
    | zero => intro σ x3 H locs ls h; exact h.elim
    | succ n39 ih39 =>
      intro σ x3 H locs ls h hP hS hl
      have h : lb_X2_takeOut_39 K p0 (fx2 (lb_X2_takeOut_39 K p0) n39) σ x3 := h
      unfold lb_X2_takeOut_39 at h
      refine lv_iload_n hx hb dX2_takeOut_39 rfl (lv_at hl 1 rfl) ?_
      refine lv_aload_n hx hb dX2_takeOut_40 rfl (lv_at hl 0 rfl) ?_
      refine fg_2_1 hZ hx hb hts in2 hown hE hP hk0 lk15 dX2_takeOut_41 ?_
      refine lv_icmp_ge (tgt := 67) hx hb dX2_takeOut_44 (by decide) (fun hc => ?_) (fun hc => ?_)
      · have h := h.1 hc
        refine lv_aload_n hx hb dX2_takeOut_67 rfl (lv_at hl 0 rfl) ?_
        refine lv_dup hx hb dX2_takeOut_68 rfl ?_
        refine fg_2_1 hZ hx hb hts in2 hown hE hP hk0 lk15 dX2_takeOut_69 ?_
        refine lv_iconst (v := 1) hx hb dX2_takeOut_72 (by decide) ?_
        refine lv_isub hx hb dX2_takeOut_73 ?_
        refine fp_2_1 hZ hx hb hts in2 hown hE hP hS hk0 lk15 dX2_takeOut_74 (fun H locs hP hS => ?_)
        exact zr_V hx hb hr hlocks hP hS h dX2_takeOut_77
      · have h := h.2 hc
        refine lv_aload_n hx hb dX2_takeOut_47 rfl (lv_at hl 0 rfl) ?_
        refine fg_2_0 hZ hx hb hts in2 hown hE hP hk0 lk9 dX2_takeOut_48 ?_
        refine lv_iload_n hx hb dX2_takeOut_51 rfl (lv_at hl 1 rfl) ?_
        refine lv_iconst (v := 1) hx hb dX2_takeOut_52 (by decide) ?_
        refine lv_isub hx hb dX2_takeOut_53 ?_
        refine lv_aload_n hx hb dX2_takeOut_54 rfl (lv_at hl 0 rfl) ?_
        refine fg_2_0 hZ hx hb hts in2 hown hE hP hk0 lk9 dX2_takeOut_55 ?_
        refine lv_iload_n hx hb dX2_takeOut_58 rfl (lv_at hl 1 rfl) ?_
        obtain ⟨hin, h⟩ := h
        refine al_11 hZ hx hb hE hP (kr_2_0 hk0) hin dX2_takeOut_59 ?_
        obtain ⟨hin, h⟩ := h
        refine as_11 hZ hx hb hE hP hS (kr_2_0 hk0) hin dX2_takeOut_60 (fun H locs hP hS => ?_)
        refine lv_iinc (v := (x3 + 1)) (lv' := [(3, .int (x3 + 1)), (0, .ref (zq Z p0))]) hx hb dX2_takeOut_61 hl (k := 1) rfl rfl (by decide) rfl (fun ls hl => ?_)
        refine lv_goto (tgt := 39) hx hb dX2_takeOut_64 (by decide) ?_
        exact ih39 (sA σ (p0 + 1) (x3 - 1).toNatClampNeg (gA σ (p0 + 1) x3.toNatClampNeg)) (x3 + 1) _ _ _ h hP hS (lv_sub hl [1, 0] rfl)
  have B26 : ∀ (σ : SS) (x2 : Int32) (H : Heap) (locs : List Loc) (ls : Array Slot), bl_X2_takeOut_26 K p0 σ x2 → PZ Z σ H → SZ Z s H locs → lv_has ls 4 [(0, .ref (zq Z p0)), (2, .int x2)] → W p l e (headSpec wsX2_takeOut (rm9 0 0)).room s m args below meth c H locs 0 0 (MQ below (qcV Z K s.heap.size) args s 0 0 (aZ Z s.heap.size)) (F0 m 26 ls []) := by
    intro σ x2 H locs ls h hP hS hl
    unfold bl_X2_takeOut_26 at h
    refine lv_iload_n hx hb dX2_takeOut_26 rfl (lv_at hl 1 rfl) ?_
    refine lv_aload_n hx hb dX2_takeOut_27 rfl (lv_at hl 0 rfl) ?_
    refine fg_2_1 hZ hx hb hts in2 hown hE hP hk0 lk15 dX2_takeOut_28 ?_
    refine lv_icmp_lt (tgt := 35) hx hb dX2_takeOut_31 (by decide) (fun hc => ?_) (fun hc => ?_)
    · have h := h.1 hc
      refine lv_iload_n hx hb dX2_takeOut_35 rfl (lv_at hl 1 rfl) ?_
      refine lv_iconst (v := 1) hx hb dX2_takeOut_36 (by decide) ?_
      refine lv_iadd hx hb dX2_takeOut_37 ?_
      refine lv_istore_n (lv' := [(3, .int (x2 + 1)), (0, .ref (zq Z p0)), (2, .int x2)]) hx hb dX2_takeOut_38 rfl hl (by decide) rfl (fun ls hl => ?_)
      obtain ⟨n, h⟩ := h
      exact B39 n σ (x2 + 1) _ _ _ h hP hS (lv_sub hl [1, 0] rfl)
    · have h := h.2 hc
      exact zr_V hx hb hr hlocks hP hS h dX2_takeOut_34
  have B2 : ∀ (n : Nat) (σ : SS) (x1 : Int32) (x2 : Int32) (H : Heap) (locs : List Loc) (ls : Array Slot), fx3 (lb_X2_takeOut_2 K p0) n σ x1 x2 → PZ Z σ H → SZ Z s H locs → lv_has ls 4 [(0, .ref (zq Z p0)), (1, .int x1), (2, .int x2)] → W p l e (headSpec wsX2_takeOut (rm9 0 0)).room s m args below meth c H locs 0 0 (MQ below (qcV Z K s.heap.size) args s 0 0 (aZ Z s.heap.size)) (F0 m 2 ls []) := by
    intro n2
    induction n2 with
    | zero => intro σ x1 x2 H locs ls h; exact h.elim
    | succ n2 ih2 =>
      intro σ x1 x2 H locs ls h hP hS hl
      have h : lb_X2_takeOut_2 K p0 (fx3 (lb_X2_takeOut_2 K p0) n2) σ x1 x2 := h
      unfold lb_X2_takeOut_2 at h
      refine lv_iload_n hx hb dX2_takeOut_2 rfl (lv_at hl 2 rfl) ?_
      refine lv_aload_n hx hb dX2_takeOut_3 rfl (lv_at hl 0 rfl) ?_
      refine fg_2_1 hZ hx hb hts in2 hown hE hP hk0 lk15 dX2_takeOut_4 ?_
      refine lv_icmp_ge (tgt := 26) hx hb dX2_takeOut_7 (by decide) (fun hc => ?_) (fun hc => ?_)
      · have h := h.1 hc
        exact B26 σ x2 _ _ _ h hP hS (lv_sub hl [0, 2] rfl)
      · have h := h.2 hc
        refine lv_aload_n hx hb dX2_takeOut_10 rfl (lv_at hl 0 rfl) ?_
        refine fg_2_0 hZ hx hb hts in2 hown hE hP hk0 lk9 dX2_takeOut_11 ?_
        refine lv_iload_n hx hb dX2_takeOut_14 rfl (lv_at hl 2 rfl) ?_
        obtain ⟨hin, h⟩ := h
        refine al_11 hZ hx hb hE hP (kr_2_0 hk0) hin dX2_takeOut_15 ?_
        refine lv_iload_n hx hb dX2_takeOut_16 rfl (lv_at hl 1 rfl) ?_
        refine lv_icmp_eq (tgt := 26) hx hb dX2_takeOut_17 (by decide) (fun hc => ?_) (fun hc => ?_)
        · have h := h.1 hc
          exact B26 σ x2 _ _ _ h hP hS (lv_sub hl [0, 2] rfl)
        · have h := h.2 hc
          refine lv_iinc (v := (x2 + 1)) (lv' := [(2, .int (x2 + 1)), (0, .ref (zq Z p0)), (1, .int x1)]) hx hb dX2_takeOut_20 hl (k := 2) rfl rfl (by decide) rfl (fun ls hl => ?_)
          refine lv_goto (tgt := 2) hx hb dX2_takeOut_23 (by decide) ?_
          exact ih2 σ x1 (x2 + 1) _ _ _ h hP hS (lv_sub hl [1, 2, 0] rfl)
  unfold wp_X2_takeOut at h
  refine lv_iconst (v := 0) hx hb dX2_takeOut_0 (by decide) ?_
  refine lv_istore_n (lv' := [(2, .int 0), (0, .ref (zq Z p0)), (1, .int x1)]) hx hb dX2_takeOut_1 rfl hl (by decide) rfl (fun ls hl => ?_)
  obtain ⟨n, h⟩ := h
  exact B2 n σ x1 0 _ _ _ h hP hS (lv_sub hl [1, 2, 0] rfl)
theorem hd_X2_moveOnTo : yX2_moveOnTo.cls = RX2 ∧ yX2_moveOnTo.cls ≠ "java/lang/invoke/MethodHandle" ∧ yX2_moveOnTo.cls ≠ "java/lang/invoke/VarHandle" ∧ (parseMethodDescriptor yX2_moveOnTo.desc).map (fun d => d.parameters.length) = some 3 := by decide +kernel
set_option maxHeartbeats 4000000 in
set_option maxRecDepth 100000 in
theorem mt_X2_moveOnTo (l : Launch) {Z : ZW} (hZ : isC Z) (σ : SS) (sz : Nat) {p0 : Nat} {p2 : Nat} (hk0 : kd p0 = 2) (hk2 : kd p2 = 10) (x1 : Int32) (x3 : Int32) (K : SS → Prop) (h : wp_X2_moveOnTo σ p0 x1 p2 x3 K) : mtZ l yX2_moveOnTo wsX2_moveOnTo (rm9 1 23) Z [.ref (zq Z p0), .int x1, .ref (zq Z p2), .int x3] σ sz (qcV Z K sz) := by
  refine Met.ofW (cc := cX2_moveOnTo) (maxL := 5) (ret := none) (by decide) rfl ?_
  intro p e s m args below meth c s₁ B hml hv
  obtain ⟨hargs, hsz, hP, hE1, hE2, hE3⟩ := hv
  subst hsz
  have hE : envZ Z s := ⟨hE1, hE2, hE3⟩
  have hx := B.exec
  have hb := B.bytes
  have hr := B.returns
  have hlocks := B.notSynchronized
  have hts := atoms_spec (ws := wsX2_moveOnTo) B.pre
  have hown : s.vm.findClass RX2 = some m.cls := findClass_of_methodNamed B.named
  have hS : SZ Z s s.heap [] := va_S.rf
  obtain ⟨ls, hef, hl⟩ := z_entry m hargs (n := 5) (Nat.le_of_ble_eq_true rfl)
  rw [hef]
  have hl : lv_has ls 5 [(0, .ref (zq Z p0)), (1, .int x1), (2, .ref (zq Z p2)), (3, .int x3)] := hl
  have in2 : ∀ w ∈ u_ws RX2 TX2 2, w ∈ wsX2_moveOnTo := by decide +kernel
  have lk15 := hts (.fieldLink RX2 15 "BeatDoubts$RankedGaps" "size" "I") (by decide +kernel)
  have B36 : ∀ (σ : SS) (x1 : Int32) (H : Heap) (locs : List Loc) (ls : Array Slot), bl_X2_moveOnTo_36 K p0 p2 σ x1 → PZ Z σ H → SZ Z s H locs → lv_has ls 5 [(0, .ref (zq Z p0)), (1, .int x1), (2, .ref (zq Z p2))] → W p l e (headSpec wsX2_moveOnTo (rm9 1 23)).room s m args below meth c H locs 0 0 (MQ below (qcV Z K s.heap.size) args s 0 0 (aZ Z s.heap.size)) (F0 m 36 ls []) := by
    intro σ x1 H locs ls h hP hS hl
    unfold bl_X2_moveOnTo_36 at h
    refine lv_aload_n hx hb dX2_moveOnTo_36 rfl (lv_at hl 0 rfl) ?_
    refine lv_aload_n hx hb dX2_moveOnTo_37 rfl (lv_at hl 2 rfl) ?_
    refine lv_iload_n hx hb dX2_moveOnTo_38 rfl (lv_at hl 1 rfl) ?_
    obtain ⟨hin, h⟩ := h
    refine al_10 hZ hx hb hE hP hk2 hin dX2_moveOnTo_39 ?_
    refine lv_aload_n hx hb dX2_moveOnTo_40 rfl (lv_at hl 2 rfl) ?_
    refine lv_iload_n hx hb dX2_moveOnTo_41 rfl (lv_at hl 1 rfl) ?_
    refine lv_iconst (v := 1) hx hb dX2_moveOnTo_42 (by decide) ?_
    refine lv_isub hx hb dX2_moveOnTo_43 ?_
    obtain ⟨hin, h⟩ := h
    refine al_10 hZ hx hb hE hP hk2 hin dX2_moveOnTo_44 ?_
    refine lv_isub hx hb dX2_moveOnTo_45 ?_
    refine zc_VV (As := [.int ((gA σ p2 x1.toNatClampNeg) - (gA σ p2 (x1 - 1).toNatClampNeg))]) (rest := []) ⟨hx, hb, hml, hown, hts⟩ (cwV 1 hts gX2_moveOnTo_X2_takeIn rfl rfl rfl hd_X2_takeIn ⟨Nat.le_of_ble_eq_true rfl, Nat.le_of_ble_eq_true rfl⟩) (mt_X2_takeIn l hZ σ _ hk0 ((gA σ p2 x1.toNatClampNeg) - (gA σ p2 (x1 - 1).toNatClampNeg)) _ h) (rc_2 hZ hE hP hk0) hE hP hS rfl hl.1 rfl (Nat.le_of_ble_eq_true rfl) dX2_moveOnTo_46 ⟨Nat.zero_le _, Nat.zero_le _⟩ (fun σ46 H locs h hP hS => ?_)
    exact zr_V hx hb hr hlocks hP hS h dX2_moveOnTo_49
  unfold wp_X2_moveOnTo at h
  refine lv_iload_n hx hb dX2_moveOnTo_0 rfl (lv_at hl 1 rfl) ?_
  refine lv_if_ne (tgt := 10) hx hb dX2_moveOnTo_1 (by decide) (fun hc => ?_) (fun hc => ?_)
  · have h := h.1 hc
    refine lv_iload_n hx hb dX2_moveOnTo_10 rfl (lv_at hl 1 rfl) ?_
    refine lv_iload_n hx hb dX2_moveOnTo_11 rfl (lv_at hl 3 rfl) ?_
    refine lv_isub hx hb dX2_moveOnTo_12 ?_
    refine lv_istore (lv' := [(4, .int (x1 - x3)), (0, .ref (zq Z p0)), (1, .int x1), (2, .ref (zq Z p2)), (3, .int x3)]) hx hb dX2_moveOnTo_13 hl (by decide) rfl (fun ls hl => ?_)
    refine lv_iload hx hb dX2_moveOnTo_15 (lv_at hl 0 rfl) ?_
    refine lv_iconst (v := 1) hx hb dX2_moveOnTo_17 (by decide) ?_
    refine lv_icmp_lt (tgt := 36) hx hb dX2_moveOnTo_18 (by decide) (fun hc => ?_) (fun hc => ?_)
    · have h := h.1 hc
      exact B36 σ x1 _ _ _ h hP hS (lv_sub hl [1, 2, 3] rfl)
    · have h := h.2 hc
      refine lv_aload_n hx hb dX2_moveOnTo_21 rfl (lv_at hl 1 rfl) ?_
      refine lv_aload_n hx hb dX2_moveOnTo_22 rfl (lv_at hl 3 rfl) ?_
      refine lv_iload hx hb dX2_moveOnTo_23 (lv_at hl 0 rfl) ?_
      obtain ⟨hin, h⟩ := h
      refine al_10 hZ hx hb hE hP hk2 hin dX2_moveOnTo_25 ?_
      refine lv_aload_n hx hb dX2_moveOnTo_26 rfl (lv_at hl 3 rfl) ?_
      refine lv_iload hx hb dX2_moveOnTo_27 (lv_at hl 0 rfl) ?_
      refine lv_iconst (v := 1) hx hb dX2_moveOnTo_29 (by decide) ?_
      refine lv_isub hx hb dX2_moveOnTo_30 ?_
      obtain ⟨hin, h⟩ := h
      refine al_10 hZ hx hb hE hP hk2 hin dX2_moveOnTo_31 ?_
      refine lv_isub hx hb dX2_moveOnTo_32 ?_
      refine zc_VV (As := [.int ((gA σ p2 (x1 - x3).toNatClampNeg) - (gA σ p2 ((x1 - x3) - 1).toNatClampNeg))]) (rest := []) ⟨hx, hb, hml, hown, hts⟩ (cwV 1 hts gX2_moveOnTo_X2_takeOut rfl rfl rfl hd_X2_takeOut ⟨Nat.le_of_ble_eq_true rfl, Nat.le_of_ble_eq_true rfl⟩) (mt_X2_takeOut l hZ σ _ hk0 ((gA σ p2 (x1 - x3).toNatClampNeg) - (gA σ p2 ((x1 - x3) - 1).toNatClampNeg)) _ h) (rc_2 hZ hE hP hk0) hE hP hS rfl hl.1 rfl (Nat.le_of_ble_eq_true rfl) dX2_moveOnTo_33 ⟨Nat.zero_le _, Nat.zero_le _⟩ (fun σ33 H locs h hP hS => ?_)
      exact B36 σ33 x1 _ _ _ h hP hS (lv_sub hl [1, 2, 3] rfl)
  · have h := h.2 hc
    refine lv_aload_n hx hb dX2_moveOnTo_4 rfl (lv_at hl 0 rfl) ?_
    refine lv_iconst (v := 0) hx hb dX2_moveOnTo_5 (by decide) ?_
    refine fp_2_1 hZ hx hb hts in2 hown hE hP hS hk0 lk15 dX2_moveOnTo_6 (fun H locs hP hS => ?_)
    exact zr_V hx hb hr hlocks hP hS h dX2_moveOnTo_9
theorem hd_X1_keep : yX1_keep.cls = RX1 ∧ yX1_keep.cls ≠ "java/lang/invoke/MethodHandle" ∧ yX1_keep.cls ≠ "java/lang/invoke/VarHandle" ∧ (parseMethodDescriptor yX1_keep.desc).map (fun d => d.parameters.length) = some 3 := by decide +kernel
set_option maxHeartbeats 4000000 in
set_option maxRecDepth 100000 in
theorem mt_X1_keep (l : Launch) {Z : ZW} (hZ : isC Z) (σ : SS) (sz : Nat) {p0 : Nat} {p1 : Nat} (hk0 : kd p0 = 1) (hk1 : kd p1 = 0) (x2 : Int32) (x3 : Int32) (K : SS → Prop) (h : wp_X1_keep σ p0 p1 x2 x3 K) : mtZ l yX1_keep wsX1_keep (rm9 2 48) Z [.ref (zq Z p0), .ref (zq Z p1), .int x2, .int x3] σ sz (qcV Z K sz) := by
  refine Met.ofW (cc := cX1_keep) (maxL := 6) (ret := none) (by decide) rfl ?_
  intro p e s m args below meth c s₁ B hml hv
  obtain ⟨hargs, hsz, hP, hE1, hE2, hE3⟩ := hv
  subst hsz
  have hE : envZ Z s := ⟨hE1, hE2, hE3⟩
  have hx := B.exec
  have hb := B.bytes
  have hr := B.returns
  have hlocks := B.notSynchronized
  have hts := atoms_spec (ws := wsX1_keep) B.pre
  have hown : s.vm.findClass RX1 = some m.cls := findClass_of_methodNamed B.named
  have hS : SZ Z s s.heap [] := va_S.rf
  obtain ⟨ls, hef, hl⟩ := z_entry m hargs (n := 6) (Nat.le_of_ble_eq_true rfl)
  rw [hef]
  have hl : lv_has ls 6 [(0, .ref (zq Z p0)), (1, .ref (zq Z p1)), (2, .int x2), (3, .int x3)] := hl
  have in0 : ∀ w ∈ u_ws RX0 TX0 10, w ∈ wsX1_keep := by decide +kernel
  have in1 : ∀ w ∈ u_ws RX1 TX1 8, w ∈ wsX1_keep := by decide +kernel
  have cdmax := hts (.code Lib.Math.max.name Lib.Math.max.code 2 (some .int)) (by decide +kernel)
  have inM := hts (.initialized "java/lang/Math") (by decide +kernel)
  have lk21 := hts (.fieldLink RX1 21 "BeatDoubts$Diary" "gaps" "LBeatDoubts$RankedGaps;") (by decide +kernel)
  have lk25 := hts (.fieldLink RX1 25 "BeatDoubts$Diary" "mistakeCount" "I") (by decide +kernel)
  have lk29 := hts (.fieldLink RX1 29 "BeatDoubts$Diary" "timeMistaken" "I") (by decide +kernel)
  have lk32 := hts (.fieldLink RX1 32 "BeatDoubts$Diary" "longestMistake" "I") (by decide +kernel)
  have lk35 := hts (.fieldLink RX1 35 "BeatDoubts$Diary" "lag" "I") (by decide +kernel)
  have lk38 := hts (.fieldLink RX1 38 "BeatDoubts$Diary" "doubtForGood" "I") (by decide +kernel)
  have lk41 := hts (.fieldLink RX1 41 "BeatDoubts$Arrivals" "newsCount" "I") (by decide +kernel)
  have lk46 := hts (.fieldLink RX1 46 "BeatDoubts$Arrivals" "timeOfNews" "[I") (by decide +kernel)
  have lk49 := hts (.fieldLink RX1 49 "BeatDoubts$Arrivals" "window" "I") (by decide +kernel)
  have lk60 := hts (.fieldLink RX1 60 "BeatDoubts$Arrivals" "beatOfNews" "[I") (by decide +kernel)
  have lk63 := hts (.fieldLink RX1 63 "BeatDoubts$Arrivals" "period" "I") (by decide +kernel)
  have lk66 := hts (.methodLink RX1 66 Lib.Math.max.name) (by decide +kernel)
  have lk9 := hts (.fieldLink RX1 9 "BeatDoubts$Diary" "beginBy" "[I") (by decide +kernel)
  have stmax := hts (.static Lib.Math.max.name) (by decide +kernel)
  have B28 : ∀ (n : Nat) (σ : SS) (x2 : Int32) (x3 : Int32) (x4 : Int32) (H : Heap) (locs : List Loc) (ls : Array Slot), fx4 (lb_X1_keep_28 K p0 p1) n σ x2 x3 x4 → PZ Z σ H → SZ Z s H locs → lv_has ls 6 [(0, .ref (zq Z p0)), (1, .ref (zq Z p1)), (2, .int x2), (3, .int x3), (4, .int x4)] → W p l e (headSpec wsX1_keep (rm9 2 48)).room s m args below meth c H locs 0 0 (MQ below (qcV Z K s.heap.size) args s 0 0 (aZ Z s.heap.size)) (F0 m 28 ls []) := by
    intro n28
    induction n28 with
    | zero => intro σ x2 x3 x4 H locs ls h; exact h.elim
    | succ n28 ih28 =>
      have B59 : ∀ (σ : SS) (x2 : Int32) (x3 : Int32) (x4 : Int32) (H : Heap) (locs : List Loc) (ls : Array Slot), bl_X1_keep_59 K (fx4 (lb_X1_keep_28 K p0 p1) n28) p0 p1 σ x2 x3 x4 → PZ Z σ H → SZ Z s H locs → lv_has ls 6 [(0, .ref (zq Z p0)), (1, .ref (zq Z p1)), (2, .int x2), (3, .int x3), (4, .int x4)] → W p l e (headSpec wsX1_keep (rm9 2 48)).room s m args below meth c H locs 0 0 (MQ below (qcV Z K s.heap.size) args s 0 0 (aZ Z s.heap.size)) (F0 m 59 ls []) := by
        intro σ x2 x3 x4 H locs ls h hP hS hl
        unfold bl_X1_keep_59 at h
        refine lv_aload_n hx hb dX1_keep_59 rfl (lv_at hl 0 rfl) ?_
        refine lv_aload_n hx hb dX1_keep_60 rfl (lv_at hl 1 rfl) ?_
        refine lv_iload hx hb dX1_keep_61 (lv_at hl 4 rfl) ?_
        refine lv_iload_n hx hb dX1_keep_63 rfl (lv_at hl 2 rfl) ?_
        refine lv_iload_n hx hb dX1_keep_64 rfl (lv_at hl 3 rfl) ?_
        refine zc_VI (As := [.ref (zq Z p1), .int x4, .int x2, .int x3]) (rest := []) ⟨hx, hb, hml, hown, hts⟩ (cwV 4 hts gX1_keep_X1_beginOfDoubt rfl rfl rfl hd_X1_beginOfDoubt ⟨Nat.le_of_ble_eq_true rfl, Nat.le_of_ble_eq_true rfl⟩) (mt_X1_beginOfDoubt l hZ σ _ hk0 hk1 x4 x2 x3 _ h) (rc_1 hZ hE hP hk0) hE hP hS rfl hl.1 rfl (Nat.le_of_ble_eq_true rfl) dX1_keep_65 ⟨Nat.zero_le _, Nat.zero_le _⟩ (fun r65 σ65 H locs h hP hS => ?_)
        refine lv_istore (lv' := [(5, .int r65), (0, .ref (zq Z p0)), (1, .ref (zq Z p1)), (2, .int x2), (3, .int x3), (4, .int x4)]) hx hb dX1_keep_68 hl (by decide) rfl (fun ls hl => ?_)
        refine lv_aload_n hx hb dX1_keep_70 rfl (lv_at hl 1 rfl) ?_
        refine fg_1_0 hZ hx hb hts in1 hown hE hP hk0 lk9 dX1_keep_71 ?_
        refine lv_iload hx hb dX1_keep_74 (lv_at hl 5 rfl) ?_
        refine lv_iload hx hb dX1_keep_76 (lv_at hl 0 rfl) ?_
        obtain ⟨hin, h⟩ := h
        refine as_10 hZ hx hb hE hP hS (kr_1_0 hk0) hin dX1_keep_78 (fun H locs hP hS => ?_)
        refine lv_iload hx hb dX1_keep_79 (lv_at hl 0 rfl) ?_
        refine lv_iconst (v := (-1)) hx hb dX1_keep_81 (by decide) ?_
        refine lv_icmp_eq (tgt := 120) hx hb dX1_keep_82 (by decide) (fun hc => ?_) (fun hc => ?_)
        · have h := h.1 hc
          refine lv_iinc (v := (x4 + 1)) (lv' := [(4, .int (x4 + 1)), (5, .int r65), (0, .ref (zq Z p0)), (1, .ref (zq Z p1)), (2, .int x2), (3, .int x3)]) hx hb dX1_keep_120 hl (k := 5) rfl rfl (by decide) rfl (fun ls hl => ?_)
          refine lv_goto (tgt := 28) hx hb dX1_keep_123 (by decide) ?_
          exact ih28 (sA σ65 (p0 + 1) x4.toNatClampNeg r65) x2 x3 (x4 + 1) _ _ _ h hP hS (lv_sub hl [2, 3, 4, 5, 0] rfl)
        · have h := h.2 hc
          refine lv_aload_n hx hb dX1_keep_85 rfl (lv_at hl 1 rfl) ?_
          refine lv_aload_n hx hb dX1_keep_86 rfl (lv_at hl 1 rfl) ?_
          refine fg_1_6 hZ hx hb hts in1 hown hE hP hk0 lk35 dX1_keep_87 ?_
          refine lv_iload hx hb dX1_keep_90 (lv_at hl 0 rfl) ?_
          refine lv_aload_n hx hb dX1_keep_92 rfl (lv_at hl 2 rfl) ?_
          refine fg_0_2 hZ hx hb hts in0 hown hE hP hk1 lk60 dX1_keep_93 ?_
          refine lv_iload hx hb dX1_keep_96 (lv_at hl 5 rfl) ?_
          obtain ⟨hin, h⟩ := h
          refine al_10 hZ hx hb hE hP (kr_0_2 hk1) hin dX1_keep_98 ?_
          refine lv_aload_n hx hb dX1_keep_99 rfl (lv_at hl 2 rfl) ?_
          refine fg_0_8 hZ hx hb hts in0 hown hE hP hk1 lk63 dX1_keep_100 ?_
          refine lv_imul hx hb dX1_keep_103 ?_
          refine lv_isub hx hb dX1_keep_104 ?_
          refine va_mmax hx hb (hml.trans hl.1.symm) hown lk66 stmax inM cdmax (Nat.le_of_ble_eq_true rfl) (Nat.le_of_ble_eq_true rfl) (Nat.zero_le _) (Nat.zero_le _) dX1_keep_105 ?_
          refine fp_1_6 hZ hx hb hts in1 hown hE hP hS hk0 lk35 dX1_keep_108 (fun H locs hP hS => ?_)
          refine lv_aload_n hx hb dX1_keep_111 rfl (lv_at hl 1 rfl) ?_
          refine lv_aload_n hx hb dX1_keep_112 rfl (lv_at hl 2 rfl) ?_
          refine lv_iload hx hb dX1_keep_113 (lv_at hl 5 rfl) ?_
          refine lv_iload hx hb dX1_keep_115 (lv_at hl 0 rfl) ?_
          refine zc_VV (As := [.ref (zq Z p1), .int x4, .int r65]) (rest := []) ⟨hx, hb, hml, hown, hts⟩ (cwV 3 hts gX1_keep_X1_noteDoubt rfl rfl rfl hd_X1_noteDoubt ⟨Nat.le_of_ble_eq_true rfl, Nat.le_of_ble_eq_true rfl⟩) (mt_X1_noteDoubt l hZ (sI (sA σ65 (p0 + 1) x4.toNatClampNeg r65) p0 6 (if (gI σ65 p0 6) < (r65 - ((gA (sA σ65 (p0 + 1) x4.toNatClampNeg r65) (p1 + 3) x4.toNatClampNeg) * (gI σ65 p1 8))) then (r65 - ((gA (sA σ65 (p0 + 1) x4.toNatClampNeg r65) (p1 + 3) x4.toNatClampNeg) * (gI σ65 p1 8))) else (gI σ65 p0 6))) _ hk0 hk1 x4 r65 _ h) (rc_1 hZ hE hP hk0) hE hP hS rfl hl.1 rfl (Nat.le_of_ble_eq_true rfl) dX1_keep_117 ⟨Nat.zero_le _, Nat.zero_le _⟩ (fun σ117 H locs h hP hS => ?_)
          refine lv_iinc (v := (x4 + 1)) (lv' := [(4, .int (x4 + 1)), (5, .int r65), (0, .ref (zq Z p0)), (1, .ref (zq Z p1)), (2, .int x2), (3, .int x3)]) hx hb dX1_keep_120 hl (k := 5) rfl rfl (by decide) rfl (fun ls hl => ?_)
          refine lv_goto (tgt := 28) hx hb dX1_keep_123 (by decide) ?_
          exact ih28 σ117 x2 x3 (x4 + 1) _ _ _ h hP hS (lv_sub hl [2, 3, 4, 5, 0] rfl)
      intro σ x2 x3 x4 H locs ls h hP hS hl
      have h : lb_X1_keep_28 K p0 p1 (fx4 (lb_X1_keep_28 K p0 p1) n28) σ x2 x3 x4 := h
      unfold lb_X1_keep_28 at h
      refine lv_iload hx hb dX1_keep_28 (lv_at hl 4 rfl) ?_
      refine lv_aload_n hx hb dX1_keep_30 rfl (lv_at hl 1 rfl) ?_
      refine fg_0_7 hZ hx hb hts in0 hown hE hP hk1 lk41 dX1_keep_31 ?_
      refine lv_icmp_ge (tgt := 126) hx hb dX1_keep_34 (by decide) (fun hc => ?_) (fun hc => ?_)
      · have h := h.1 hc
        exact zr_V hx hb hr hlocks hP hS h dX1_keep_126
      · have h := h.2 hc
        refine lv_iload_n hx hb dX1_keep_37 rfl (lv_at hl 2 rfl) ?_
        refine lv_iconst (v := 1) hx hb dX1_keep_38 (by decide) ?_
        refine lv_icmp_ne (tgt := 59) hx hb dX1_keep_39 (by decide) (fun hc => ?_) (fun hc => ?_)
        · have h := h.1 hc
          exact B59 σ x2 x3 x4 _ _ _ h hP hS (lv_sub hl [0, 1, 2, 3, 4] rfl)
        · have h := h.2 hc
          refine lv_aload_n hx hb dX1_keep_42 rfl (lv_at hl 0 rfl) ?_
          refine fg_1_2 hZ hx hb hts in1 hown hE hP hk0 lk21 dX1_keep_43 ?_
          refine lv_iload hx hb dX1_keep_46 (lv_at hl 4 rfl) ?_
          refine lv_aload_n hx hb dX1_keep_48 rfl (lv_at hl 1 rfl) ?_
          refine fg_0_3 hZ hx hb hts in0 hown hE hP hk1 lk46 dX1_keep_49 ?_
          refine lv_aload_n hx hb dX1_keep_52 rfl (lv_at hl 1 rfl) ?_
          refine fg_0_9 hZ hx hb hts in0 hown hE hP hk1 lk49 dX1_keep_53 ?_
          refine zc_VV (As := [.int x4, .ref (zq Z (p1 + 4)), .int (gI σ p1 9)]) (rest := []) ⟨hx, hb, hml, hown, hts⟩ (cwV 3 hts gX1_keep_X2_moveOnTo rfl rfl rfl hd_X2_moveOnTo ⟨Nat.le_of_ble_eq_true rfl, Nat.le_of_ble_eq_true rfl⟩) (mt_X2_moveOnTo l hZ σ _ (kr_1_2 hk0) (kr_0_3 hk1) x4 (gI σ p1 9) _ h) (rc_2 hZ hE hP (kr_1_2 hk0)) hE hP hS rfl hl.1 rfl (Nat.le_of_ble_eq_true rfl) dX1_keep_56 ⟨Nat.zero_le _, Nat.zero_le _⟩ (fun σ56 H locs h hP hS => ?_)
          exact B59 σ56 x2 x3 x4 _ _ _ h hP hS (lv_sub hl [0, 1, 2, 3, 4] rfl)
  unfold wp_X1_keep at h
  refine lv_aload_n hx hb dX1_keep_0 rfl (lv_at hl 0 rfl) ?_
  refine lv_iconst (v := 0) hx hb dX1_keep_1 (by decide) ?_
  refine fp_1_3 hZ hx hb hts in1 hown hE hP hS hk0 lk25 dX1_keep_2 (fun H locs hP hS => ?_)
  refine lv_aload_n hx hb dX1_keep_5 rfl (lv_at hl 0 rfl) ?_
  refine lv_iconst (v := 0) hx hb dX1_keep_6 (by decide) ?_
  refine fp_1_4 hZ hx hb hts in1 hown hE hP hS hk0 lk29 dX1_keep_7 (fun H locs hP hS => ?_)
  refine lv_aload_n hx hb dX1_keep_10 rfl (lv_at hl 0 rfl) ?_
  refine lv_iconst (v := 0) hx hb dX1_keep_11 (by decide) ?_
  refine fp_1_5 hZ hx hb hts in1 hown hE hP hS hk0 lk32 dX1_keep_12 (fun H locs hP hS => ?_)
  refine lv_aload_n hx hb dX1_keep_15 rfl (lv_at hl 0 rfl) ?_
  refine lv_iconst (v := (-1)) hx hb dX1_keep_16 (by decide) ?_
  refine fp_1_6 hZ hx hb hts in1 hown hE hP hS hk0 lk35 dX1_keep_17 (fun H locs hP hS => ?_)
  refine lv_aload_n hx hb dX1_keep_20 rfl (lv_at hl 0 rfl) ?_
  refine lv_iconst (v := (-1)) hx hb dX1_keep_21 (by decide) ?_
  refine fp_1_7 hZ hx hb hts in1 hown hE hP hS hk0 lk38 dX1_keep_22 (fun H locs hP hS => ?_)
  refine lv_iconst (v := 0) hx hb dX1_keep_25 (by decide) ?_
  refine lv_istore (lv' := [(4, .int 0), (0, .ref (zq Z p0)), (1, .ref (zq Z p1)), (2, .int x2), (3, .int x3)]) hx hb dX1_keep_26 hl (by decide) rfl (fun ls hl => ?_)
  obtain ⟨n, h⟩ := h
  exact B28 n (sI (sI (sI (sI (sI σ p0 3 0) p0 4 0) p0 5 0) p0 6 (-1)) p0 7 (-1)) x2 x3 0 _ _ _ h hP hS (lv_sub hl [1, 2, 3, 4, 0] rfl)
theorem hd_X3_putNumber : yX3_putNumber.cls = RX3 ∧ yX3_putNumber.cls ≠ "java/lang/invoke/MethodHandle" ∧ yX3_putNumber.cls ≠ "java/lang/invoke/VarHandle" ∧ (parseMethodDescriptor yX3_putNumber.desc).map (fun d => d.parameters.length) = some 2 := by decide +kernel
set_option maxHeartbeats 4000000 in
set_option maxRecDepth 100000 in
theorem mt_X3_putNumber (l : Launch) {Z : ZW} (hZ : isC Z) (σ : SS) (sz : Nat) {p0 : Nat} (hk0 : kd p0 = 3) (x1 : Int32) (x2 : UInt64) (K : SS → Prop) (h : wp_X3_putNumber σ p0 x1 x2 K) : mtZ l yX3_putNumber wsX3_putNumber (rm9 0 0) Z [.ref (zq Z p0), .int x1, .double x2] σ sz (qcV Z K sz) := by
  refine Met.ofW (cc := cX3_putNumber) (maxL := 4) (ret := none) (by decide) rfl ?_
  intro p e s m args below meth c s₁ B hml hv
  obtain ⟨hargs, hsz, hP, hE1, hE2, hE3⟩ := hv
  subst hsz
  have hE : envZ Z s := ⟨hE1, hE2, hE3⟩
  have hx := B.exec
  have hb := B.bytes
  have hr := B.returns
  have hlocks := B.notSynchronized
  have hts := atoms_spec (ws := wsX3_putNumber) B.pre
  have hown : s.vm.findClass RX3 = some m.cls := findClass_of_methodNamed B.named
  have hS : SZ Z s s.heap [] := va_S.rf
  obtain ⟨ls, hef, hl⟩ := z_entry m hargs (n := 4) (Nat.le_of_ble_eq_true rfl)
  rw [hef]
  have hl : lv_has ls 4 [(0, .ref (zq Z p0)), (1, .int x1), (2, .double x2)] := hl
  have in3 : ∀ w ∈ u_ws RX3 TX3 6, w ∈ wsX3_putNumber := by decide +kernel
  have lk19 := hts (.fieldLink RX3 19 "BeatDoubts$Sheet" "doubles" "[D") (by decide +kernel)
  have lk23 := hts (.fieldLink RX3 23 "BeatDoubts$Sheet" "isNoNumber" "[Z") (by decide +kernel)
  unfold wp_X3_putNumber at h
  refine lv_aload_n hx hb dX3_putNumber_0 rfl (lv_at hl 0 rfl) ?_
  refine fg_3_4 hZ hx hb hts in3 hown hE hP hk0 lk19 dX3_putNumber_1 ?_
  refine lv_iload_n hx hb dX3_putNumber_4 rfl (lv_at hl 1 rfl) ?_
  refine lv_dload_n hx hb dX3_putNumber_5 rfl (lv_at hl 2 rfl) ?_
  obtain ⟨hin, h⟩ := h
  refine as_15 hZ hx hb hE hP hS (kr_3_4 hk0) hin dX3_putNumber_6 (fun H locs hP hS => ?_)
  refine lv_aload_n hx hb dX3_putNumber_7 rfl (lv_at hl 0 rfl) ?_
  refine fg_3_5 hZ hx hb hts in3 hown hE hP hk0 lk23 dX3_putNumber_8 ?_
  refine lv_iload_n hx hb dX3_putNumber_11 rfl (lv_at hl 1 rfl) ?_
  refine lv_iconst (v := 0) hx hb dX3_putNumber_12 (by decide) ?_
  obtain ⟨hin, h⟩ := h
  refine as_13 hZ hx hb hE hP hS (kr_3_5 hk0) hin dX3_putNumber_13 (fun H locs hP hS => ?_)
  exact zr_V hx hb hr hlocks hP hS h dX3_putNumber_14
theorem hd_X3_begin : yX3_begin.cls = RX3 ∧ yX3_begin.cls ≠ "java/lang/invoke/MethodHandle" ∧ yX3_begin.cls ≠ "java/lang/invoke/VarHandle" ∧ (parseMethodDescriptor yX3_begin.desc).map (fun d => d.parameters.length) = some 2 := by decide +kernel
set_option maxHeartbeats 4000000 in
set_option maxRecDepth 100000 in
theorem mt_X3_begin (l : Launch) {Z : ZW} (hZ : isC Z) (σ : SS) (sz : Nat) {p0 : Nat} (hk0 : kd p0 = 3) (x1 : Int32) (x2 : Int32) (K : SS → Prop) (h : wp_X3_begin σ p0 x1 x2 K) : mtZ l yX3_begin wsX3_begin (rm9 1 23) Z [.ref (zq Z p0), .int x1, .int x2] σ sz (qcV Z K sz) := by
  refine Met.ofW (cc := cX3_begin) (maxL := 4) (ret := none) (by decide) rfl ?_
  intro p e s m args below meth c s₁ B hml hv
  obtain ⟨hargs, hsz, hP, hE1, hE2, hE3⟩ := hv
  subst hsz
  have hE : envZ Z s := ⟨hE1, hE2, hE3⟩
  have hx := B.exec
  have hb := B.bytes
  have hr := B.returns
  have hlocks := B.notSynchronized
  have hts := atoms_spec (ws := wsX3_begin) B.pre
  have hown : s.vm.findClass RX3 = some m.cls := findClass_of_methodNamed B.named
  have hS : SZ Z s s.heap [] := va_S.rf
  obtain ⟨ls, hef, hl⟩ := z_entry m hargs (n := 4) (Nat.le_of_ble_eq_true rfl)
  rw [hef]
  have hl : lv_has ls 4 [(0, .ref (zq Z p0)), (1, .int x1), (2, .int x2)] := hl
  have in3 : ∀ w ∈ u_ws RX3 TX3 6, w ∈ wsX3_begin := by decide +kernel
  have lk15 := hts (.fieldLink RX3 15 "BeatDoubts$Sheet" "longs" "[J") (by decide +kernel)
  have lk27 := hts (.fieldLink RX3 27 "BeatDoubts$Sheet" "form" "I") (by decide +kernel)
  have lk31 := hts (.fieldLink RX3 31 "BeatDoubts$Sheet" "size" "I") (by decide +kernel)
  have lk9 := hts (.fieldLink RX3 9 "BeatDoubts$Sheet" "isLost" "Z") (by decide +kernel)
  have B17 : ∀ (n : Nat) (σ : SS) (x2 : Int32) (x3 : Int32) (H : Heap) (locs : List Loc) (ls : Array Slot), fx3 (lb_X3_begin_17 K p0) n σ x2 x3 → PZ Z σ H → SZ Z s H locs → lv_has ls 4 [(0, .ref (zq Z p0)), (2, .int x2), (3, .int x3)] → W p l e (headSpec wsX3_begin (rm9 1 23)).room s m args below meth c H locs 0 0 (MQ below (qcV Z K s.heap.size) args s 0 0 (aZ Z s.heap.size)) (F0 m 17 ls []) := by
    intro n17
    induction n17 with
    | zero => intro σ x2 x3 H locs ls h; exact h.elim
    | succ n17 ih17 =>
      intro σ x2 x3 H locs ls h hP hS hl
      have h : lb_X3_begin_17 K p0 (fx3 (lb_X3_begin_17 K p0) n17) σ x2 x3 := h
      unfold lb_X3_begin_17 at h
      refine lv_iload_n hx hb dX3_begin_17 rfl (lv_at hl 2 rfl) ?_
      refine lv_iload_n hx hb dX3_begin_18 rfl (lv_at hl 1 rfl) ?_
      refine lv_icmp_ge (tgt := 41) hx hb dX3_begin_19 (by decide) (fun hc => ?_) (fun hc => ?_)
      · have h := h.1 hc
        exact zr_V hx hb hr hlocks hP hS h dX3_begin_41
      · have h := h.2 hc
        refine lv_aload_n hx hb dX3_begin_22 rfl (lv_at hl 0 rfl) ?_
        refine fg_3_3 hZ hx hb hts in3 hown hE hP hk0 lk15 dX3_begin_23 ?_
        refine lv_iload_n hx hb dX3_begin_26 rfl (lv_at hl 2 rfl) ?_
        refine lv_lconst (v := 0) hx hb dX3_begin_27 (by decide) ?_
        obtain ⟨hin, h⟩ := h
        refine as_14 hZ hx hb hE hP hS (kr_3_3 hk0) hin dX3_begin_28 (fun H locs hP hS => ?_)
        refine lv_aload_n hx hb dX3_begin_29 rfl (lv_at hl 0 rfl) ?_
        refine lv_iload_n hx hb dX3_begin_30 rfl (lv_at hl 2 rfl) ?_
        refine lv_dconst0 hx hb dX3_begin_31 ?_
        refine zc_VV (As := [.int x3, .double FP.dconst0]) (rest := []) ⟨hx, hb, hml, hown, hts⟩ (cwV 2 hts gX3_begin_X3_putNumber rfl rfl rfl hd_X3_putNumber ⟨Nat.le_of_ble_eq_true rfl, Nat.le_of_ble_eq_true rfl⟩) (mt_X3_putNumber l hZ (sL σ (p0 + 1) x3.toNatClampNeg 0) _ hk0 x3 FP.dconst0 _ h) (rc_3 hZ hE hP hk0) hE hP hS rfl hl.1 rfl (Nat.le_of_ble_eq_true rfl) dX3_begin_32 ⟨Nat.zero_le _, Nat.zero_le _⟩ (fun σ32 H locs h hP hS => ?_)
        refine lv_iinc (v := (x3 + 1)) (lv' := [(3, .int (x3 + 1)), (0, .ref (zq Z p0)), (2, .int x2)]) hx hb dX3_begin_35 hl (k := 2) rfl rfl (by decide) rfl (fun ls hl => ?_)
        refine lv_goto (tgt := 17) hx hb dX3_begin_38 (by decide) ?_
        exact ih17 σ32 x2 (x3 + 1) _ _ _ h hP hS (lv_sub hl [1, 2, 0] rfl)
  unfold wp_X3_begin at h
  refine lv_aload_n hx hb dX3_begin_0 rfl (lv_at hl 0 rfl) ?_
  refine lv_iconst (v := 0) hx hb dX3_begin_1 (by decide) ?_
  refine fp_3_0 hZ hx hb hts in3 hown hE hP hS hk0 lk9 (by decide) dX3_begin_2 (fun H locs hP hS => ?_)
  refine lv_aload_n hx hb dX3_begin_5 rfl (lv_at hl 0 rfl) ?_
  refine lv_iload_n hx hb dX3_begin_6 rfl (lv_at hl 1 rfl) ?_
  refine fp_3_1 hZ hx hb hts in3 hown hE hP hS hk0 lk27 dX3_begin_7 (fun H locs hP hS => ?_)
  refine lv_aload_n hx hb dX3_begin_10 rfl (lv_at hl 0 rfl) ?_
  refine lv_iload_n hx hb dX3_begin_11 rfl (lv_at hl 2 rfl) ?_
  refine fp_3_2 hZ hx hb hts in3 hown hE hP hS hk0 lk31 dX3_begin_12 (fun H locs hP hS => ?_)
  refine lv_iconst (v := 0) hx hb dX3_begin_15 (by decide) ?_
  refine lv_istore_n (lv' := [(3, .int 0), (0, .ref (zq Z p0)), (1, .int x1), (2, .int x2)]) hx hb dX3_begin_16 rfl hl (by decide) rfl (fun ls hl => ?_)
  obtain ⟨n, h⟩ := h
  exact B17 n (sI (sI (sI σ p0 0 0) p0 1 x1) p0 2 x2) x2 0 _ _ _ h hP hS (lv_sub hl [1, 3, 0] rfl)
theorem hd_X3_hasItems : yX3_hasItems.cls = RX3 ∧ yX3_hasItems.cls ≠ "java/lang/invoke/MethodHandle" ∧ yX3_hasItems.cls ≠ "java/lang/invoke/VarHandle" ∧ (parseMethodDescriptor yX3_hasItems.desc).map (fun d => d.parameters.length) = some 2 := by decide +kernel
set_option maxHeartbeats 4000000 in
set_option maxRecDepth 100000 in
theorem mt_X3_hasItems (l : Launch) {Z : ZW} (hZ : isC Z) (σ : SS) (sz : Nat) {p0 : Nat} (hk0 : kd p0 = 3) (x1 : Int32) (x2 : Int32) (K : SS → Int32 → Prop) (h : wp_X3_hasItems σ p0 x1 x2 K) : mtZ l yX3_hasItems wsX3_hasItems (rm9 0 0) Z [.ref (zq Z p0), .int x1, .int x2] σ sz (qcI Z K sz) := by
  refine Met.ofW (cc := cX3_hasItems) (maxL := 3) (ret := (some .boolean)) (by decide) rfl ?_
  intro p e s m args below meth c s₁ B hml hv
  obtain ⟨hargs, hsz, hP, hE1, hE2, hE3⟩ := hv
  subst hsz
  have hE : envZ Z s := ⟨hE1, hE2, hE3⟩
  have hx := B.exec
  have hb := B.bytes
  have hr := B.returns
  have hlocks := B.notSynchronized
  have hts := atoms_spec (ws := wsX3_hasItems) B.pre
  have hown : s.vm.findClass RX3 = some m.cls := findClass_of_methodNamed B.named
  have hS : SZ Z s s.heap [] := va_S.rf
  obtain ⟨ls, hef, hl⟩ := z_entry m hargs (n := 3) (Nat.le_of_ble_eq_true rfl)
  rw [hef]
  have hl : lv_has ls 3 [(0, .ref (zq Z p0)), (1, .int x1), (2, .int x2)] := hl
  have in3 : ∀ w ∈ u_ws RX3 TX3 6, w ∈ wsX3_hasItems := by decide +kernel
  have lk31 := hts (.fieldLink RX3 31 "BeatDoubts$Sheet" "size" "I") (by decide +kernel)
  unfold wp_X3_hasItems at h
  refine lv_iload_n hx hb dX3_hasItems_0 rfl (lv_at hl 1 rfl) ?_
  refine lv_if_lt (tgt := 30) hx hb dX3_hasItems_1 (by decide) (fun hc => ?_) (fun hc => ?_)
  · have h := h.1 hc
    refine lv_iconst (v := 0) hx hb dX3_hasItems_30 (by decide) ?_
    exact zr_Z hx hb hr hlocks hP hS (by decide) h dX3_hasItems_31
  · have h := h.2 hc
    refine lv_iload_n hx hb dX3_hasItems_4 rfl (lv_at hl 2 rfl) ?_
    refine lv_if_lt (tgt := 30) hx hb dX3_hasItems_5 (by decide) (fun hc => ?_) (fun hc => ?_)
    · have h := h.1 hc
      refine lv_iconst (v := 0) hx hb dX3_hasItems_30 (by decide) ?_
      exact zr_Z hx hb hr hlocks hP hS (by decide) h dX3_hasItems_31
    · have h := h.2 hc
      refine lv_iload_n hx hb dX3_hasItems_8 rfl (lv_at hl 1 rfl) ?_
      refine lv_aload_n hx hb dX3_hasItems_9 rfl (lv_at hl 0 rfl) ?_
      refine fg_3_2 hZ hx hb hts in3 hown hE hP hk0 lk31 dX3_hasItems_10 ?_
      refine lv_icmp_gt (tgt := 30) hx hb dX3_hasItems_13 (by decide) (fun hc => ?_) (fun hc => ?_)
      · have h := h.1 hc
        refine lv_iconst (v := 0) hx hb dX3_hasItems_30 (by decide) ?_
        exact zr_Z hx hb hr hlocks hP hS (by decide) h dX3_hasItems_31
      · have h := h.2 hc
        refine lv_iload_n hx hb dX3_hasItems_16 rfl (lv_at hl 2 rfl) ?_
        refine lv_aload_n hx hb dX3_hasItems_17 rfl (lv_at hl 0 rfl) ?_
        refine fg_3_2 hZ hx hb hts in3 hown hE hP hk0 lk31 dX3_hasItems_18 ?_
        refine lv_iload_n hx hb dX3_hasItems_21 rfl (lv_at hl 1 rfl) ?_
        refine lv_isub hx hb dX3_hasItems_22 ?_
        refine lv_icmp_gt (tgt := 30) hx hb dX3_hasItems_23 (by decide) (fun hc => ?_) (fun hc => ?_)
        · have h := h.1 hc
          refine lv_iconst (v := 0) hx hb dX3_hasItems_30 (by decide) ?_
          exact zr_Z hx hb hr hlocks hP hS (by decide) h dX3_hasItems_31
        · have h := h.2 hc
          refine lv_iconst (v := 1) hx hb dX3_hasItems_26 (by decide) ?_
          refine lv_goto (tgt := 31) hx hb dX3_hasItems_27 (by decide) ?_
          exact zr_Z hx hb hr hlocks hP hS (by decide) h dX3_hasItems_31
theorem hd_X3_takeItems : yX3_takeItems.cls = RX3 ∧ yX3_takeItems.cls ≠ "java/lang/invoke/MethodHandle" ∧ yX3_takeItems.cls ≠ "java/lang/invoke/VarHandle" ∧ (parseMethodDescriptor yX3_takeItems.desc).map (fun d => d.parameters.length) = some 4 := by decide +kernel
set_option maxHeartbeats 4000000 in
set_option maxRecDepth 100000 in
theorem mt_X3_takeItems (l : Launch) {Z : ZW} (hZ : isC Z) (σ : SS) (sz : Nat) {p0 : Nat} {p1 : Nat} (hk0 : kd p0 = 3) (hk1 : kd p1 = 3) (x2 : Int32) (x3 : Int32) (x4 : Int32) (K : SS → Prop) (h : wp_X3_takeItems σ p0 p1 x2 x3 x4 K) : mtZ l yX3_takeItems wsX3_takeItems (rm9 0 0) Z [.ref (zq Z p0), .ref (zq Z p1), .int x2, .int x3, .int x4] σ sz (qcV Z K sz) := by
  refine Met.ofW (cc := cX3_takeItems) (maxL := 7) (ret := none) (by decide) rfl ?_
  intro p e s m args below meth c s₁ B hml hv
  obtain ⟨hargs, hsz, hP, hE1, hE2, hE3⟩ := hv
  subst hsz
  have hE : envZ Z s := ⟨hE1, hE2, hE3⟩
  have hx := B.exec
  have hb := B.bytes
  have hr := B.returns
  have hlocks := B.notSynchronized
  have hts := atoms_spec (ws := wsX3_takeItems) B.pre
  have hown : s.vm.findClass RX3 = some m.cls := findClass_of_methodNamed B.named
  have hS : SZ Z s s.heap [] := va_S.rf
  obtain ⟨ls, hef, hl⟩ := z_entry m hargs (n := 7) (Nat.le_of_ble_eq_true rfl)
  rw [hef]
  have hl : lv_has ls 7 [(0, .ref (zq Z p0)), (1, .ref (zq Z p1)), (2, .int x2), (3, .int x3), (4, .int x4)] := hl
  have in3 : ∀ w ∈ u_ws RX3 TX3 6, w ∈ wsX3_takeItems := by decide +kernel
  have lk15 := hts (.fieldLink RX3 15 "BeatDoubts$Sheet" "longs" "[J") (by decide +kernel)
  have lk19 := hts (.fieldLink RX3 19 "BeatDoubts$Sheet" "doubles" "[D") (by decide +kernel)
  have lk23 := hts (.fieldLink RX3 23 "BeatDoubts$Sheet" "isNoNumber" "[Z") (by decide +kernel)
  have B3 : ∀ (n : Nat) (σ : SS) (x2 : Int32) (x3 : Int32) (x4 : Int32) (x5 : Int32) (H : Heap) (locs : List Loc) (ls : Array Slot), fx5 (lb_X3_takeItems_3 K p0 p1) n σ x2 x3 x4 x5 → PZ Z σ H → SZ Z s H locs → lv_has ls 7 [(0, .ref (zq Z p0)), (1, .ref (zq Z p1)), (2, .int x2), (3, .int x3), (4, .int x4), (5, .int x5)] → W p l e (headSpec wsX3_takeItems (rm9 0 0)).room s m args below meth c H locs 0 0 (MQ below (qcV Z K s.heap.size) args s 0 0 (aZ Z s.heap.size)) (F0 m 3 ls []) := by
    intro n3
    induction n3 with
    | zero => intro σ x2 x3 x4 x5 H locs ls h; exact h.elim
    | succ n3 ih3 =>
      have B27 : ∀ (σ : SS) (x2 : Int32) (x3 : Int32) (x4 : Int32) (x5 : Int32) (k0 : Int32) (H : Heap) (locs : List Loc) (ls : Array Slot), bl_X3_takeItems_27 K (fx5 (lb_X3_takeItems_3 K p0 p1) n3) p0 p1 σ x2 x3 x4 x5 k0 → PZ Z σ H → SZ Z s H locs → lv_has ls 7 [(0, .ref (zq Z p0)), (1, .ref (zq Z p1)), (2, .int x2), (3, .int x3), (4, .int x4), (5, .int x5)] → W p l e (headSpec wsX3_takeItems (rm9 0 0)).room s m args below meth c H locs 0 0 (MQ below (qcV Z K s.heap.size) args s 0 0 (aZ Z s.heap.size)) (F0 m 27 ls [.int k0]) := by
        intro σ x2 x3 x4 x5 k0 H locs ls h hP hS hl
        unfold bl_X3_takeItems_27 at h
        refine lv_istore (lv' := [(6, .int k0), (0, .ref (zq Z p0)), (1, .ref (zq Z p1)), (2, .int x2), (3, .int x3), (4, .int x4), (5, .int x5)]) hx hb dX3_takeItems_27 hl (by decide) rfl (fun ls hl => ?_)
        refine lv_aload_n hx hb dX3_takeItems_29 rfl (lv_at hl 1 rfl) ?_
        refine fg_3_3 hZ hx hb hts in3 hown hE hP hk0 lk15 dX3_takeItems_30 ?_
        refine lv_iload_n hx hb dX3_takeItems_33 rfl (lv_at hl 4 rfl) ?_
        refine lv_iload hx hb dX3_takeItems_34 (lv_at hl 0 rfl) ?_
        refine lv_iadd hx hb dX3_takeItems_36 ?_
        refine lv_aload_n hx hb dX3_takeItems_37 rfl (lv_at hl 2 rfl) ?_
        refine fg_3_3 hZ hx hb hts in3 hown hE hP hk1 lk15 dX3_takeItems_38 ?_
        refine lv_iload_n hx hb dX3_takeItems_41 rfl (lv_at hl 3 rfl) ?_
        refine lv_iload hx hb dX3_takeItems_42 (lv_at hl 0 rfl) ?_
        refine lv_iadd hx hb dX3_takeItems_44 ?_
        obtain ⟨hin, h⟩ := h
        refine al_14 hZ hx hb hE hP (kr_3_3 hk1) hin dX3_takeItems_45 ?_
        obtain ⟨hin, h⟩ := h
        refine as_14 hZ hx hb hE hP hS (kr_3_3 hk0) hin dX3_takeItems_46 (fun H locs hP hS => ?_)
        refine lv_aload_n hx hb dX3_takeItems_47 rfl (lv_at hl 1 rfl) ?_
        refine fg_3_4 hZ hx hb hts in3 hown hE hP hk0 lk19 dX3_takeItems_48 ?_
        refine lv_iload_n hx hb dX3_takeItems_51 rfl (lv_at hl 4 rfl) ?_
        refine lv_iload hx hb dX3_takeItems_52 (lv_at hl 0 rfl) ?_
        refine lv_iadd hx hb dX3_takeItems_54 ?_
        refine lv_aload_n hx hb dX3_takeItems_55 rfl (lv_at hl 2 rfl) ?_
        refine fg_3_4 hZ hx hb hts in3 hown hE hP hk1 lk19 dX3_takeItems_56 ?_
        refine lv_iload_n hx hb dX3_takeItems_59 rfl (lv_at hl 3 rfl) ?_
        refine lv_iload hx hb dX3_takeItems_60 (lv_at hl 0 rfl) ?_
        refine lv_iadd hx hb dX3_takeItems_62 ?_
        obtain ⟨hin, h⟩ := h
        refine al_15 hZ hx hb hE hP (kr_3_4 hk1) hin dX3_takeItems_63 ?_
        obtain ⟨hin, h⟩ := h
        refine as_15 hZ hx hb hE hP hS (kr_3_4 hk0) hin dX3_takeItems_64 (fun H locs hP hS => ?_)
        refine lv_aload_n hx hb dX3_takeItems_65 rfl (lv_at hl 1 rfl) ?_
        refine fg_3_5 hZ hx hb hts in3 hown hE hP hk0 lk23 dX3_takeItems_66 ?_
        refine lv_iload_n hx hb dX3_takeItems_69 rfl (lv_at hl 4 rfl) ?_
        refine lv_iload hx hb dX3_takeItems_70 (lv_at hl 0 rfl) ?_
        refine lv_iadd hx hb dX3_takeItems_72 ?_
        refine lv_aload_n hx hb dX3_takeItems_73 rfl (lv_at hl 2 rfl) ?_
        refine fg_3_5 hZ hx hb hts in3 hown hE hP hk1 lk23 dX3_takeItems_74 ?_
        refine lv_iload_n hx hb dX3_takeItems_77 rfl (lv_at hl 3 rfl) ?_
        refine lv_iload hx hb dX3_takeItems_78 (lv_at hl 0 rfl) ?_
        refine lv_iadd hx hb dX3_takeItems_80 ?_
        obtain ⟨hin, h⟩ := h
        refine al_13 hZ hx hb hE hP (kr_3_5 hk1) hin dX3_takeItems_81 ?_
        obtain ⟨hin, h⟩ := h
        refine as_13 hZ hx hb hE hP hS (kr_3_5 hk0) hin dX3_takeItems_82 (fun H locs hP hS => ?_)
        refine lv_iinc (v := (x5 + 1)) (lv' := [(5, .int (x5 + 1)), (6, .int k0), (0, .ref (zq Z p0)), (1, .ref (zq Z p1)), (2, .int x2), (3, .int x3), (4, .int x4)]) hx hb dX3_takeItems_83 hl (k := 6) rfl rfl (by decide) rfl (fun ls hl => ?_)
        refine lv_goto (tgt := 3) hx hb dX3_takeItems_86 (by decide) ?_
        exact ih3 (sA (sD (sL σ (p0 + 1) (x3 + k0).toNatClampNeg (gL σ (p1 + 1) (x2 + k0).toNatClampNeg)) (p0 + 2) (x3 + k0).toNatClampNeg (gD σ (p1 + 2) (x2 + k0).toNatClampNeg)) (p0 + 3) (x3 + k0).toNatClampNeg (vp_nar .boolean (gA σ (p1 + 3) (x2 + k0).toNatClampNeg))) x2 x3 x4 (x5 + 1) _ _ _ h hP hS (lv_sub hl [2, 3, 4, 5, 6, 0] rfl)
      intro σ x2 x3 x4 x5 H locs ls h hP hS hl
      have h : lb_X3_takeItems_3 K p0 p1 (fx5 (lb_X3_takeItems_3 K p0 p1) n3) σ x2 x3 x4 x5 := h
      unfold lb_X3_takeItems_3 at h
      refine lv_iload hx hb dX3_takeItems_3 (lv_at hl 5 rfl) ?_
      refine lv_iload hx hb dX3_takeItems_5 (lv_at hl 4 rfl) ?_
      refine lv_icmp_ge (tgt := 89) hx hb dX3_takeItems_7 (by decide) (fun hc => ?_) (fun hc => ?_)
      · have h := h.1 hc
        exact zr_V hx hb hr hlocks hP hS h dX3_takeItems_89
      · have h := h.2 hc
        refine lv_iload_n hx hb dX3_takeItems_10 rfl (lv_at hl 2 rfl) ?_
        refine lv_iload_n hx hb dX3_takeItems_11 rfl (lv_at hl 3 rfl) ?_
        refine lv_icmp_lt (tgt := 20) hx hb dX3_takeItems_12 (by decide) (fun hc => ?_) (fun hc => ?_)
        · have h := h.1 hc
          refine lv_iload hx hb dX3_takeItems_20 (lv_at hl 4 rfl) ?_
          refine lv_iconst (v := 1) hx hb dX3_takeItems_22 (by decide) ?_
          refine lv_isub hx hb dX3_takeItems_23 ?_
          refine lv_iload hx hb dX3_takeItems_24 (lv_at hl 5 rfl) ?_
          refine lv_isub hx hb dX3_takeItems_26 ?_
          exact B27 σ x2 x3 x4 x5 ((x4 - 1) - x5) _ _ _ h hP hS (lv_sub hl [0, 1, 2, 3, 4, 5] rfl)
        · have h := h.2 hc
          refine lv_iload hx hb dX3_takeItems_15 (lv_at hl 5 rfl) ?_
          refine lv_goto (tgt := 27) hx hb dX3_takeItems_17 (by decide) ?_
          exact B27 σ x2 x3 x4 x5 x5 _ _ _ h hP hS (lv_sub hl [0, 1, 2, 3, 4, 5] rfl)
  unfold wp_X3_takeItems at h
  refine lv_iconst (v := 0) hx hb dX3_takeItems_0 (by decide) ?_
  refine lv_istore (lv' := [(5, .int 0), (0, .ref (zq Z p0)), (1, .ref (zq Z p1)), (2, .int x2), (3, .int x3), (4, .int x4)]) hx hb dX3_takeItems_1 hl (by decide) rfl (fun ls hl => ?_)
  obtain ⟨n, h⟩ := h
  exact B3 n σ x2 x3 x4 0 _ _ _ h hP hS (lv_sub hl [1, 2, 3, 4, 5, 0] rfl)
theorem hd_X3_countNoNumbers : yX3_countNoNumbers.cls = RX3 ∧ yX3_countNoNumbers.cls ≠ "java/lang/invoke/MethodHandle" ∧ yX3_countNoNumbers.cls ≠ "java/lang/invoke/VarHandle" ∧ (parseMethodDescriptor yX3_countNoNumbers.desc).map (fun d => d.parameters.length) = some 0 := by decide +kernel
set_option maxHeartbeats 4000000 in
set_option maxRecDepth 100000 in
theorem mt_X3_countNoNumbers (l : Launch) {Z : ZW} (hZ : isC Z) (σ : SS) (sz : Nat) {p0 : Nat} (hk0 : kd p0 = 3) (K : SS → Int32 → Prop) (h : wp_X3_countNoNumbers σ p0 K) : mtZ l yX3_countNoNumbers wsX3_countNoNumbers (rm9 0 0) Z [.ref (zq Z p0)] σ sz (qcI Z K sz) := by
  refine Met.ofW (cc := cX3_countNoNumbers) (maxL := 3) (ret := (some .int)) (by decide) rfl ?_
  intro p e s m args below meth c s₁ B hml hv
  obtain ⟨hargs, hsz, hP, hE1, hE2, hE3⟩ := hv
  subst hsz
  have hE : envZ Z s := ⟨hE1, hE2, hE3⟩
  have hx := B.exec
  have hb := B.bytes
  have hr := B.returns
  have hlocks := B.notSynchronized
  have hts := atoms_spec (ws := wsX3_countNoNumbers) B.pre
  have hown : s.vm.findClass RX3 = some m.cls := findClass_of_methodNamed B.named
  have hS : SZ Z s s.heap [] := va_S.rf
  obtain ⟨ls, hef, hl⟩ := z_entry m hargs (n := 3) (Nat.le_of_ble_eq_true rfl)
  rw [hef]
  have hl : lv_has ls 3 [(0, .ref (zq Z p0))] := hl
  have in3 : ∀ w ∈ u_ws RX3 TX3 6, w ∈ wsX3_countNoNumbers := by decide +kernel
  have lk23 := hts (.fieldLink RX3 23 "BeatDoubts$Sheet" "isNoNumber" "[Z") (by decide +kernel)
  have lk31 := hts (.fieldLink RX3 31 "BeatDoubts$Sheet" "size" "I") (by decide +kernel)
  have B4 : ∀ (n : Nat) (σ : SS) (x1 : Int32) (x2 : Int32) (H : Heap) (locs : List Loc) (ls : Array Slot), fx3 (lb_X3_countNoNumbers_4 K p0) n σ x1 x2 → PZ Z σ H → SZ Z s H locs → lv_has ls 3 [(0, .ref (zq Z p0)), (1, .int x1), (2, .int x2)] → W p l e (headSpec wsX3_countNoNumbers (rm9 0 0)).room s m args below meth c H locs 0 0 (MQ below (qcI Z K s.heap.size) args s 0 0 (aZ Z s.heap.size)) (F0 m 4 ls []) := by
    intro n4
    induction n4 with
    | zero => intro σ x1 x2 H locs ls h; exact h.elim
    | succ n4 ih4 =>
      intro σ x1 x2 H locs ls h hP hS hl
      have h : lb_X3_countNoNumbers_4 K p0 (fx3 (lb_X3_countNoNumbers_4 K p0) n4) σ x1 x2 := h
      unfold lb_X3_countNoNumbers_4 at h
      refine lv_iload_n hx hb dX3_countNoNumbers_4 rfl (lv_at hl 2 rfl) ?_
      refine lv_aload_n hx hb dX3_countNoNumbers_5 rfl (lv_at hl 0 rfl) ?_
      refine fg_3_2 hZ hx hb hts in3 hown hE hP hk0 lk31 dX3_countNoNumbers_6 ?_
      refine lv_icmp_ge (tgt := 30) hx hb dX3_countNoNumbers_9 (by decide) (fun hc => ?_) (fun hc => ?_)
      · have h := h.1 hc
        refine lv_iload_n hx hb dX3_countNoNumbers_30 rfl (lv_at hl 1 rfl) ?_
        exact zr_I hx hb hr hlocks hP hS h dX3_countNoNumbers_31
      · have h := h.2 hc
        refine lv_aload_n hx hb dX3_countNoNumbers_12 rfl (lv_at hl 0 rfl) ?_
        refine fg_3_5 hZ hx hb hts in3 hown hE hP hk0 lk23 dX3_countNoNumbers_13 ?_
        refine lv_iload_n hx hb dX3_countNoNumbers_16 rfl (lv_at hl 2 rfl) ?_
        obtain ⟨hin, h⟩ := h
        refine al_13 hZ hx hb hE hP (kr_3_5 hk0) hin dX3_countNoNumbers_17 ?_
        refine lv_if_eq (tgt := 24) hx hb dX3_countNoNumbers_18 (by decide) (fun hc => ?_) (fun hc => ?_)
        · have h := h.1 hc
          refine lv_iinc (v := (x2 + 1)) (lv' := [(2, .int (x2 + 1)), (0, .ref (zq Z p0)), (1, .int x1)]) hx hb dX3_countNoNumbers_24 hl (k := 2) rfl rfl (by decide) rfl (fun ls hl => ?_)
          refine lv_goto (tgt := 4) hx hb dX3_countNoNumbers_27 (by decide) ?_
          exact ih4 σ x1 (x2 + 1) _ _ _ h hP hS (lv_sub hl [1, 2, 0] rfl)
        · have h := h.2 hc
          refine lv_iinc (v := (x1 + 1)) (lv' := [(1, .int (x1 + 1)), (0, .ref (zq Z p0)), (2, .int x2)]) hx hb dX3_countNoNumbers_21 hl (k := 1) rfl rfl (by decide) rfl (fun ls hl => ?_)
          refine lv_iinc (v := (x2 + 1)) (lv' := [(2, .int (x2 + 1)), (1, .int (x1 + 1)), (0, .ref (zq Z p0))]) hx hb dX3_countNoNumbers_24 hl (k := 2) rfl rfl (by decide) rfl (fun ls hl => ?_)
          refine lv_goto (tgt := 4) hx hb dX3_countNoNumbers_27 (by decide) ?_
          exact ih4 σ (x1 + 1) (x2 + 1) _ _ _ h hP hS (lv_sub hl [2, 1, 0] rfl)
  unfold wp_X3_countNoNumbers at h
  refine lv_iconst (v := 0) hx hb dX3_countNoNumbers_0 (by decide) ?_
  refine lv_istore_n (lv' := [(1, .int 0), (0, .ref (zq Z p0))]) hx hb dX3_countNoNumbers_1 rfl hl (by decide) rfl (fun ls hl => ?_)
  refine lv_iconst (v := 0) hx hb dX3_countNoNumbers_2 (by decide) ?_
  refine lv_istore_n (lv' := [(2, .int 0), (1, .int 0), (0, .ref (zq Z p0))]) hx hb dX3_countNoNumbers_3 rfl hl (by decide) rfl (fun ls hl => ?_)
  obtain ⟨n, h⟩ := h
  exact B4 n σ 0 0 _ _ _ h hP hS (lv_sub hl [2, 1, 0] rfl)
theorem hd_X3_countAbove : yX3_countAbove.cls = RX3 ∧ yX3_countAbove.cls ≠ "java/lang/invoke/MethodHandle" ∧ yX3_countAbove.cls ≠ "java/lang/invoke/VarHandle" ∧ (parseMethodDescriptor yX3_countAbove.desc).map (fun d => d.parameters.length) = some 1 := by decide +kernel
set_option maxHeartbeats 4000000 in
set_option maxRecDepth 100000 in
theorem mt_X3_countAbove (l : Launch) {Z : ZW} (hZ : isC Z) (σ : SS) (sz : Nat) {p0 : Nat} (hk0 : kd p0 = 3) (x1 : UInt64) (K : SS → Int32 → Prop) (h : wp_X3_countAbove σ p0 x1 K) : mtZ l yX3_countAbove wsX3_countAbove (rm9 0 0) Z [.ref (zq Z p0), .double x1] σ sz (qcI Z K sz) := by
  refine Met.ofW (cc := cX3_countAbove) (maxL := 5) (ret := (some .int)) (by decide) rfl ?_
  intro p e s m args below meth c s₁ B hml hv
  obtain ⟨hargs, hsz, hP, hE1, hE2, hE3⟩ := hv
  subst hsz
  have hE : envZ Z s := ⟨hE1, hE2, hE3⟩
  have hx := B.exec
  have hb := B.bytes
  have hr := B.returns
  have hlocks := B.notSynchronized
  have hts := atoms_spec (ws := wsX3_countAbove) B.pre
  have hown : s.vm.findClass RX3 = some m.cls := findClass_of_methodNamed B.named
  have hS : SZ Z s s.heap [] := va_S.rf
  obtain ⟨ls, hef, hl⟩ := z_entry m hargs (n := 5) (Nat.le_of_ble_eq_true rfl)
  rw [hef]
  have hl : lv_has ls 5 [(0, .ref (zq Z p0)), (1, .double x1)] := hl
  have in3 : ∀ w ∈ u_ws RX3 TX3 6, w ∈ wsX3_countAbove := by decide +kernel
  have lk19 := hts (.fieldLink RX3 19 "BeatDoubts$Sheet" "doubles" "[D") (by decide +kernel)
  have lk23 := hts (.fieldLink RX3 23 "BeatDoubts$Sheet" "isNoNumber" "[Z") (by decide +kernel)
  have lk31 := hts (.fieldLink RX3 31 "BeatDoubts$Sheet" "size" "I") (by decide +kernel)
  have B5 : ∀ (n : Nat) (σ : SS) (x1 : UInt64) (x3 : Int32) (x4 : Int32) (H : Heap) (locs : List Loc) (ls : Array Slot), fx4 (lb_X3_countAbove_5 K p0) n σ x1 x3 x4 → PZ Z σ H → SZ Z s H locs → lv_has ls 5 [(0, .ref (zq Z p0)), (1, .double x1), (3, .int x3), (4, .int x4)] → W p l e (headSpec wsX3_countAbove (rm9 0 0)).room s m args below meth c H locs 0 0 (MQ below (qcI Z K s.heap.size) args s 0 0 (aZ Z s.heap.size)) (F0 m 5 ls []) := by
    intro n5
    induction n5 with
    | zero => intro σ x1 x3 x4 H locs ls h; exact h.elim
    | succ n5 ih5 =>
      intro σ x1 x3 x4 H locs ls h hP hS hl
      have h : lb_X3_countAbove_5 K p0 (fx4 (lb_X3_countAbove_5 K p0) n5) σ x1 x3 x4 := h
      unfold lb_X3_countAbove_5 at h
      refine lv_iload hx hb dX3_countAbove_5 (lv_at hl 3 rfl) ?_
      refine lv_aload_n hx hb dX3_countAbove_7 rfl (lv_at hl 0 rfl) ?_
      refine fg_3_2 hZ hx hb hts in3 hown hE hP hk0 lk31 dX3_countAbove_8 ?_
      refine lv_icmp_ge (tgt := 45) hx hb dX3_countAbove_11 (by decide) (fun hc => ?_) (fun hc => ?_)
      · have h := h.1 hc
        refine lv_iload_n hx hb dX3_countAbove_45 rfl (lv_at hl 2 rfl) ?_
        exact zr_I hx hb hr hlocks hP hS h dX3_countAbove_46
      · have h := h.2 hc
        refine lv_aload_n hx hb dX3_countAbove_14 rfl (lv_at hl 0 rfl) ?_
        refine fg_3_5 hZ hx hb hts in3 hown hE hP hk0 lk23 dX3_countAbove_15 ?_
        refine lv_iload hx hb dX3_countAbove_18 (lv_at hl 3 rfl) ?_
        obtain ⟨hin, h⟩ := h
        refine al_13 hZ hx hb hE hP (kr_3_5 hk0) hin dX3_countAbove_20 ?_
        refine lv_if_ne (tgt := 39) hx hb dX3_countAbove_21 (by decide) (fun hc => ?_) (fun hc => ?_)
        · have h := h.1 hc
          refine lv_iinc (v := (x4 + 1)) (lv' := [(4, .int (x4 + 1)), (0, .ref (zq Z p0)), (1, .double x1), (3, .int x3)]) hx hb dX3_countAbove_39 hl (k := 3) rfl rfl (by decide) rfl (fun ls hl => ?_)
          refine lv_goto (tgt := 5) hx hb dX3_countAbove_42 (by decide) ?_
          exact ih5 σ x1 x3 (x4 + 1) _ _ _ h hP hS (lv_sub hl [1, 2, 3, 0] rfl)
        · have h := h.2 hc
          refine lv_aload_n hx hb dX3_countAbove_24 rfl (lv_at hl 0 rfl) ?_
          refine fg_3_4 hZ hx hb hts in3 hown hE hP hk0 lk19 dX3_countAbove_25 ?_
          refine lv_iload hx hb dX3_countAbove_28 (lv_at hl 3 rfl) ?_
          obtain ⟨hin, h⟩ := h
          refine al_15 hZ hx hb hE hP (kr_3_4 hk0) hin dX3_countAbove_30 ?_
          refine lv_dload_n hx hb dX3_countAbove_31 rfl (lv_at hl 1 rfl) ?_
          refine lv_dcmp hx hb dX3_countAbove_32 ?_
          refine lv_if_le (tgt := 39) hx hb dX3_countAbove_33 (by decide) (fun hc => ?_) (fun hc => ?_)
          · have h := h.1 hc
            refine lv_iinc (v := (x4 + 1)) (lv' := [(4, .int (x4 + 1)), (0, .ref (zq Z p0)), (1, .double x1), (3, .int x3)]) hx hb dX3_countAbove_39 hl (k := 3) rfl rfl (by decide) rfl (fun ls hl => ?_)
            refine lv_goto (tgt := 5) hx hb dX3_countAbove_42 (by decide) ?_
            exact ih5 σ x1 x3 (x4 + 1) _ _ _ h hP hS (lv_sub hl [1, 2, 3, 0] rfl)
          · have h := h.2 hc
            refine lv_iinc (v := (x3 + 1)) (lv' := [(3, .int (x3 + 1)), (0, .ref (zq Z p0)), (1, .double x1), (4, .int x4)]) hx hb dX3_countAbove_36 hl (k := 2) rfl rfl (by decide) rfl (fun ls hl => ?_)
            refine lv_iinc (v := (x4 + 1)) (lv' := [(4, .int (x4 + 1)), (3, .int (x3 + 1)), (0, .ref (zq Z p0)), (1, .double x1)]) hx hb dX3_countAbove_39 hl (k := 3) rfl rfl (by decide) rfl (fun ls hl => ?_)
            refine lv_goto (tgt := 5) hx hb dX3_countAbove_42 (by decide) ?_
            exact ih5 σ x1 (x3 + 1) (x4 + 1) _ _ _ h hP hS (lv_sub hl [2, 3, 1, 0] rfl)
  unfold wp_X3_countAbove at h
  refine lv_iconst (v := 0) hx hb dX3_countAbove_0 (by decide) ?_
  refine lv_istore_n (lv' := [(3, .int 0), (0, .ref (zq Z p0)), (1, .double x1)]) hx hb dX3_countAbove_1 rfl hl (by decide) rfl (fun ls hl => ?_)
  refine lv_iconst (v := 0) hx hb dX3_countAbove_2 (by decide) ?_
  refine lv_istore (lv' := [(4, .int 0), (3, .int 0), (0, .ref (zq Z p0)), (1, .double x1)]) hx hb dX3_countAbove_3 hl (by decide) rfl (fun ls hl => ?_)
  obtain ⟨n, h⟩ := h
  exact B5 n σ x1 0 0 _ _ _ h hP hS (lv_sub hl [2, 3, 1, 0] rfl)
theorem hd_X3_countBelow : yX3_countBelow.cls = RX3 ∧ yX3_countBelow.cls ≠ "java/lang/invoke/MethodHandle" ∧ yX3_countBelow.cls ≠ "java/lang/invoke/VarHandle" ∧ (parseMethodDescriptor yX3_countBelow.desc).map (fun d => d.parameters.length) = some 1 := by decide +kernel
set_option maxHeartbeats 4000000 in
set_option maxRecDepth 100000 in
theorem mt_X3_countBelow (l : Launch) {Z : ZW} (hZ : isC Z) (σ : SS) (sz : Nat) {p0 : Nat} (hk0 : kd p0 = 3) (x1 : UInt64) (K : SS → Int32 → Prop) (h : wp_X3_countBelow σ p0 x1 K) : mtZ l yX3_countBelow wsX3_countBelow (rm9 0 0) Z [.ref (zq Z p0), .double x1] σ sz (qcI Z K sz) := by
  refine Met.ofW (cc := cX3_countBelow) (maxL := 5) (ret := (some .int)) (by decide) rfl ?_
  intro p e s m args below meth c s₁ B hml hv
  obtain ⟨hargs, hsz, hP, hE1, hE2, hE3⟩ := hv
  subst hsz
  have hE : envZ Z s := ⟨hE1, hE2, hE3⟩
  have hx := B.exec
  have hb := B.bytes
  have hr := B.returns
  have hlocks := B.notSynchronized
  have hts := atoms_spec (ws := wsX3_countBelow) B.pre
  have hown : s.vm.findClass RX3 = some m.cls := findClass_of_methodNamed B.named
  have hS : SZ Z s s.heap [] := va_S.rf
  obtain ⟨ls, hef, hl⟩ := z_entry m hargs (n := 5) (Nat.le_of_ble_eq_true rfl)
  rw [hef]
  have hl : lv_has ls 5 [(0, .ref (zq Z p0)), (1, .double x1)] := hl
  have in3 : ∀ w ∈ u_ws RX3 TX3 6, w ∈ wsX3_countBelow := by decide +kernel
  have lk19 := hts (.fieldLink RX3 19 "BeatDoubts$Sheet" "doubles" "[D") (by decide +kernel)
  have lk23 := hts (.fieldLink RX3 23 "BeatDoubts$Sheet" "isNoNumber" "[Z") (by decide +kernel)
  have lk31 := hts (.fieldLink RX3 31 "BeatDoubts$Sheet" "size" "I") (by decide +kernel)
  have B5 : ∀ (n : Nat) (σ : SS) (x1 : UInt64) (x3 : Int32) (x4 : Int32) (H : Heap) (locs : List Loc) (ls : Array Slot), fx4 (lb_X3_countBelow_5 K p0) n σ x1 x3 x4 → PZ Z σ H → SZ Z s H locs → lv_has ls 5 [(0, .ref (zq Z p0)), (1, .double x1), (3, .int x3), (4, .int x4)] → W p l e (headSpec wsX3_countBelow (rm9 0 0)).room s m args below meth c H locs 0 0 (MQ below (qcI Z K s.heap.size) args s 0 0 (aZ Z s.heap.size)) (F0 m 5 ls []) := by
    intro n5
    induction n5 with
    | zero => intro σ x1 x3 x4 H locs ls h; exact h.elim
    | succ n5 ih5 =>
      intro σ x1 x3 x4 H locs ls h hP hS hl
      have h : lb_X3_countBelow_5 K p0 (fx4 (lb_X3_countBelow_5 K p0) n5) σ x1 x3 x4 := h
      unfold lb_X3_countBelow_5 at h
      refine lv_iload hx hb dX3_countBelow_5 (lv_at hl 3 rfl) ?_
      refine lv_aload_n hx hb dX3_countBelow_7 rfl (lv_at hl 0 rfl) ?_
      refine fg_3_2 hZ hx hb hts in3 hown hE hP hk0 lk31 dX3_countBelow_8 ?_
      refine lv_icmp_ge (tgt := 45) hx hb dX3_countBelow_11 (by decide) (fun hc => ?_) (fun hc => ?_)
      · have h := h.1 hc
        refine lv_iload_n hx hb dX3_countBelow_45 rfl (lv_at hl 2 rfl) ?_
        exact zr_I hx hb hr hlocks hP hS h dX3_countBelow_46
      · have h := h.2 hc
        refine lv_aload_n hx hb dX3_countBelow_14 rfl (lv_at hl 0 rfl) ?_
        refine fg_3_5 hZ hx hb hts in3 hown hE hP hk0 lk23 dX3_countBelow_15 ?_
        refine lv_iload hx hb dX3_countBelow_18 (lv_at hl 3 rfl) ?_
        obtain ⟨hin, h⟩ := h
        refine al_13 hZ hx hb hE hP (kr_3_5 hk0) hin dX3_countBelow_20 ?_
        refine lv_if_ne (tgt := 39) hx hb dX3_countBelow_21 (by decide) (fun hc => ?_) (fun hc => ?_)
        · have h := h.1 hc
          refine lv_iinc (v := (x4 + 1)) (lv' := [(4, .int (x4 + 1)), (0, .ref (zq Z p0)), (1, .double x1), (3, .int x3)]) hx hb dX3_countBelow_39 hl (k := 3) rfl rfl (by decide) rfl (fun ls hl => ?_)
          refine lv_goto (tgt := 5) hx hb dX3_countBelow_42 (by decide) ?_
          exact ih5 σ x1 x3 (x4 + 1) _ _ _ h hP hS (lv_sub hl [1, 2, 3, 0] rfl)
        · have h := h.2 hc
          refine lv_aload_n hx hb dX3_countBelow_24 rfl (lv_at hl 0 rfl) ?_
          refine fg_3_4 hZ hx hb hts in3 hown hE hP hk0 lk19 dX3_countBelow_25 ?_
          refine lv_iload hx hb dX3_countBelow_28 (lv_at hl 3 rfl) ?_
          obtain ⟨hin, h⟩ := h
          refine al_15 hZ hx hb hE hP (kr_3_4 hk0) hin dX3_countBelow_30 ?_
          refine lv_dload_n hx hb dX3_countBelow_31 rfl (lv_at hl 1 rfl) ?_
          refine lv_dcmp hx hb dX3_countBelow_32 ?_
          refine lv_if_ge (tgt := 39) hx hb dX3_countBelow_33 (by decide) (fun hc => ?_) (fun hc => ?_)
          · have h := h.1 hc
            refine lv_iinc (v := (x4 + 1)) (lv' := [(4, .int (x4 + 1)), (0, .ref (zq Z p0)), (1, .double x1), (3, .int x3)]) hx hb dX3_countBelow_39 hl (k := 3) rfl rfl (by decide) rfl (fun ls hl => ?_)
            refine lv_goto (tgt := 5) hx hb dX3_countBelow_42 (by decide) ?_
            exact ih5 σ x1 x3 (x4 + 1) _ _ _ h hP hS (lv_sub hl [1, 2, 3, 0] rfl)
          · have h := h.2 hc
            refine lv_iinc (v := (x3 + 1)) (lv' := [(3, .int (x3 + 1)), (0, .ref (zq Z p0)), (1, .double x1), (4, .int x4)]) hx hb dX3_countBelow_36 hl (k := 2) rfl rfl (by decide) rfl (fun ls hl => ?_)
            refine lv_iinc (v := (x4 + 1)) (lv' := [(4, .int (x4 + 1)), (3, .int (x3 + 1)), (0, .ref (zq Z p0)), (1, .double x1)]) hx hb dX3_countBelow_39 hl (k := 3) rfl rfl (by decide) rfl (fun ls hl => ?_)
            refine lv_goto (tgt := 5) hx hb dX3_countBelow_42 (by decide) ?_
            exact ih5 σ x1 (x3 + 1) (x4 + 1) _ _ _ h hP hS (lv_sub hl [2, 3, 1, 0] rfl)
  unfold wp_X3_countBelow at h
  refine lv_iconst (v := 0) hx hb dX3_countBelow_0 (by decide) ?_
  refine lv_istore_n (lv' := [(3, .int 0), (0, .ref (zq Z p0)), (1, .double x1)]) hx hb dX3_countBelow_1 rfl hl (by decide) rfl (fun ls hl => ?_)
  refine lv_iconst (v := 0) hx hb dX3_countBelow_2 (by decide) ?_
  refine lv_istore (lv' := [(4, .int 0), (3, .int 0), (0, .ref (zq Z p0)), (1, .double x1)]) hx hb dX3_countBelow_3 hl (by decide) rfl (fun ls hl => ?_)
  obtain ⟨n, h⟩ := h
  exact B5 n σ x1 0 0 _ _ _ h hP hS (lv_sub hl [2, 3, 1, 0] rfl)
