theorem hd_X6_in : yX6_in.cls ≠ "java/lang/invoke/MethodHandle" ∧ yX6_in.cls ≠ "java/lang/invoke/VarHandle" ∧ (parseMethodDescriptor yX6_in.desc).map (fun d => d.parameters.length) = some 3 := by decide +kernel
set_option maxHeartbeats 4000000 in
set_option maxRecDepth 100000 in
theorem mt_X6_in (l : Launch) {Z : ZW} (hZ : isM Z) (σ : SS) (sz : Nat) (x0 : Int32) (x1 : Int32) (x2 : Int32) (K : SS → Int32 → Prop) (h : wp_X6_in σ x0 x1 x2 K) : mtZ l yX6_in wsX6_in (rm9 0 0) Z [.int x0, .int x1, .int x2] σ sz (qcI Z K sz) := by
  refine Met.ofW (cc := cX6_in) (maxL := 3) (ret := (some .boolean)) (by decide) rfl ?_
  intro p e s m args below meth c s₁ B hml hv
  obtain ⟨hargs, hsz, hP, hE1, hE2, hE3⟩ := hv
  subst hsz
  have hE : envZ Z s := ⟨hE1, hE2, hE3⟩
  have hx := B.exec
  have hb := B.bytes
  have hr := B.returns
  have hlocks := B.notSynchronized
  have hts := atoms_spec (ws := wsX6_in) B.pre
  have hown : s.vm.findClass RX6 = some m.cls := findClass_of_methodNamed B.named
  have hS : SZ Z s s.heap [] := va_S.rf
  obtain ⟨ls, hef, hl⟩ := z_entry m hargs (n := 3) (Nat.le_of_ble_eq_true rfl)
  rw [hef]
  have hl : lv_has ls 3 [(0, .int x0), (1, .int x1), (2, .int x2)] := hl
  unfold wp_X6_in at h
  refine lv_iload_n hx hb dX6_in_0 rfl (lv_at hl 0 rfl) ?_
  refine lv_iload_n hx hb dX6_in_1 rfl (lv_at hl 1 rfl) ?_
  refine lv_icmp_lt (tgt := 14) hx hb dX6_in_2 (by decide) (fun hc => ?_) (fun hc => ?_)
  · have h := h.1 hc
    refine lv_iconst (v := 0) hx hb dX6_in_14 (by decide) ?_
    exact zr_Z hx hb hr hlocks hP hS (by decide) h dX6_in_15
  · have h := h.2 hc
    refine lv_iload_n hx hb dX6_in_5 rfl (lv_at hl 0 rfl) ?_
    refine lv_iload_n hx hb dX6_in_6 rfl (lv_at hl 2 rfl) ?_
    refine lv_icmp_gt (tgt := 14) hx hb dX6_in_7 (by decide) (fun hc => ?_) (fun hc => ?_)
    · have h := h.1 hc
      refine lv_iconst (v := 0) hx hb dX6_in_14 (by decide) ?_
      exact zr_Z hx hb hr hlocks hP hS (by decide) h dX6_in_15
    · have h := h.2 hc
      refine lv_iconst (v := 1) hx hb dX6_in_10 (by decide) ?_
      refine lv_goto (tgt := 15) hx hb dX6_in_11 (by decide) ?_
      exact zr_Z hx hb hr hlocks hP hS (by decide) h dX6_in_15
theorem hd_X6_no : yX6_no.cls ≠ "java/lang/invoke/MethodHandle" ∧ yX6_no.cls ≠ "java/lang/invoke/VarHandle" ∧ (parseMethodDescriptor yX6_no.desc).map (fun d => d.parameters.length) = some 1 := by decide +kernel
set_option maxHeartbeats 4000000 in
set_option maxRecDepth 100000 in
theorem mt_X6_no (l : Launch) {Z : ZW} (hZ : isM Z) (σ : SS) (sz : Nat) (x0 : Int32) (K : SS → Int64 → Prop) (h : wp_X6_no σ x0 K) : mtZ l yX6_no wsX6_no (rm9 0 0) Z [.int x0] σ sz (qcL Z K sz) := by
  refine Met.ofW (cc := cX6_no) (maxL := 1) (ret := (some .long)) (by decide) rfl ?_
  intro p e s m args below meth c s₁ B hml hv
  obtain ⟨hargs, hsz, hP, hE1, hE2, hE3⟩ := hv
  subst hsz
  have hE : envZ Z s := ⟨hE1, hE2, hE3⟩
  have hx := B.exec
  have hb := B.bytes
  have hr := B.returns
  have hlocks := B.notSynchronized
  have hts := atoms_spec (ws := wsX6_no) B.pre
  have hown : s.vm.findClass RX6 = some m.cls := findClass_of_methodNamed B.named
  have hS : SZ Z s s.heap [] := va_S.rf
  obtain ⟨ls, hef, hl⟩ := z_entry m hargs (n := 1) (Nat.le_of_ble_eq_true rfl)
  rw [hef]
  have hl : lv_has ls 1 [(0, .int x0)] := hl
  have lk74 := hts (.constantLong RX6 74 (-9223372036854775808)) (by decide +kernel)
  unfold wp_X6_no at h
  refine lv_ldc2 (v := (-9223372036854775808)) hx hb hown lk74 dX6_no_0 ?_
  refine lv_iload_n hx hb dX6_no_3 rfl (lv_at hl 0 rfl) ?_
  refine lv_i2l hx hb dX6_no_4 rfl ?_
  refine lv_lsub hx hb dX6_no_5 ?_
  exact zr_L hx hb hr hlocks hP hS h dX6_no_6
theorem hd_X6_partOf : yX6_partOf.cls ≠ "java/lang/invoke/MethodHandle" ∧ yX6_partOf.cls ≠ "java/lang/invoke/VarHandle" ∧ (parseMethodDescriptor yX6_partOf.desc).map (fun d => d.parameters.length) = some 3 := by decide +kernel
set_option maxHeartbeats 4000000 in
set_option maxRecDepth 100000 in
theorem mt_X6_partOf (l : Launch) {Z : ZW} (hZ : isM Z) (σ : SS) (sz : Nat) (x0 : Int64) (x2 : Int64) (x4 : Int32) (K : SS → Int64 → Prop) (h : wp_X6_partOf σ x0 x2 x4 K) : mtZ l yX6_partOf wsX6_partOf (rm9 0 0) Z [.long x0, .long x2, .int x4] σ sz (qcL Z K sz) := by
  refine Met.ofW (cc := cX6_partOf) (maxL := 11) (ret := (some .long)) (by decide) rfl ?_
  intro p e s m args below meth c s₁ B hml hv
  obtain ⟨hargs, hsz, hP, hE1, hE2, hE3⟩ := hv
  subst hsz
  have hE : envZ Z s := ⟨hE1, hE2, hE3⟩
  have hx := B.exec
  have hb := B.bytes
  have hr := B.returns
  have hlocks := B.notSynchronized
  have hts := atoms_spec (ws := wsX6_partOf) B.pre
  have hown : s.vm.findClass RX6 = some m.cls := findClass_of_methodNamed B.named
  have hS : SZ Z s s.heap [] := va_S.rf
  obtain ⟨ls, hef, hl⟩ := z_entry m hargs (n := 11) (Nat.le_of_ble_eq_true rfl)
  rw [hef]
  have hl : lv_has ls 11 [(0, .long x0), (2, .long x2), (4, .int x4)] := hl
  have B42 : ∀ (σ : SS) (x0 : Int64) (x2 : Int64) (x4 : Int32) (x5 : Int64) (H : Heap) (locs : List Loc) (ls : Array Slot), bl_X6_partOf_42 K σ x0 x2 x4 x5 → PZ Z σ H → SZ Z s H locs → lv_has ls 11 [(0, .long x0), (2, .long x2), (4, .int x4), (5, .long x5)] → W p l e (headSpec wsX6_partOf (rm9 0 0)).room s m args below meth c H locs 0 0 (MQ below (qcL Z K s.heap.size) args s 0 0 (aZ Z s.heap.size)) (F0 m 42 ls []) := by
    intro σ x0 x2 x4 x5 H locs ls h hP hS hl
    unfold bl_X6_partOf_42 at h
    refine lv_iload hx hb dX6_partOf_42 (lv_at hl 2 rfl) ?_
    refine lv_if_ne (tgt := 54) hx hb dX6_partOf_44 (by decide) (fun hc => ?_) (fun hc => ?_)
    · have h := h.1 hc
      refine lv_lload_n hx hb dX6_partOf_54 rfl (lv_at hl 1 rfl) ?_
      refine lv_lload hx hb dX6_partOf_55 (lv_at hl 3 rfl) ?_
      obtain ⟨hne, h⟩ := h
      refine lv_ldiv hx hb dX6_partOf_57 hne ?_
      exact zr_L hx hb hr hlocks hP hS h dX6_partOf_58
    · have h := h.2 hc
      refine lv_lload_n hx hb dX6_partOf_47 rfl (lv_at hl 0 rfl) ?_
      refine lv_lload hx hb dX6_partOf_48 (lv_at hl 3 rfl) ?_
      obtain ⟨hne, h⟩ := h
      refine lv_ldiv hx hb dX6_partOf_50 hne ?_
      refine lv_goto (tgt := 58) hx hb dX6_partOf_51 (by decide) ?_
      exact zr_L hx hb hr hlocks hP hS h dX6_partOf_58
  have B17 : ∀ (n : Nat) (σ : SS) (x0 : Int64) (x2 : Int64) (x4 : Int32) (x5 : Int64) (x7 : Int64) (H : Heap) (locs : List Loc) (ls : Array Slot), fx6 (lb_X6_partOf_17 K) n σ x0 x2 x4 x5 x7 → PZ Z σ H → SZ Z s H locs → lv_has ls 11 [(0, .long x0), (2, .long x2), (4, .int x4), (5, .long x5), (7, .long x7)] → W p l e (headSpec wsX6_partOf (rm9 0 0)).room s m args below meth c H locs 0 0 (MQ below (qcL Z K s.heap.size) args s 0 0 (aZ Z s.heap.size)) (F0 m 17 ls []) := by
    intro n17
    induction n17 with
    | zero => intro σ x0 x2 x4 x5 x7 H locs ls h; exact h.elim
    | succ n17 ih17 =>
      intro σ x0 x2 x4 x5 x7 H locs ls h hP hS hl
      have h : lb_X6_partOf_17 K (fx6 (lb_X6_partOf_17 K) n17) σ x0 x2 x4 x5 x7 := h
      unfold lb_X6_partOf_17 at h
      refine lv_lload hx hb dX6_partOf_17 (lv_at hl 4 rfl) ?_
      refine lv_lconst (v := 0) hx hb dX6_partOf_19 (by decide) ?_
      refine W.lcmp hx hb dX6_partOf_20 ?_
      refine lv_if_eq (tgt := 42) hx hb dX6_partOf_21 (by decide) (fun hc => ?_) (fun hc => ?_)
      · have h := h.1 hc
        exact B42 σ x0 x2 x4 x5 _ _ _ h hP hS (lv_sub hl [0, 1, 2, 3] rfl)
      · have h := h.2 hc
        refine lv_lload hx hb dX6_partOf_24 (lv_at hl 3 rfl) ?_
        refine lv_lload hx hb dX6_partOf_26 (lv_at hl 4 rfl) ?_
        obtain ⟨hne, h⟩ := h
        refine lv_lrem hx hb dX6_partOf_28 hne ?_
        refine lv_lstore (lv' := [(9, .long (x5 - x5 / x7 * x7)), (0, .long x0), (2, .long x2), (4, .int x4), (5, .long x5), (7, .long x7)]) hx hb dX6_partOf_29 hl (by decide) rfl (fun ls hl => ?_)
        refine lv_lload hx hb dX6_partOf_31 (lv_at hl 5 rfl) ?_
        refine lv_lstore (lv' := [(5, .long x7), (9, .long (x5 - x5 / x7 * x7)), (0, .long x0), (2, .long x2), (4, .int x4), (7, .long x7)]) hx hb dX6_partOf_33 hl (by decide) rfl (fun ls hl => ?_)
        refine lv_lload hx hb dX6_partOf_35 (lv_at hl 1 rfl) ?_
        refine lv_lstore (lv' := [(7, .long (x5 - x5 / x7 * x7)), (5, .long x7), (9, .long (x5 - x5 / x7 * x7)), (0, .long x0), (2, .long x2), (4, .int x4)]) hx hb dX6_partOf_37 hl (by decide) rfl (fun ls hl => ?_)
        refine lv_goto (tgt := 17) hx hb dX6_partOf_39 (by decide) ?_
        exact ih17 σ x0 x2 x4 x7 (x5 - x5 / x7 * x7) _ _ _ h hP hS (lv_sub hl [3, 4, 5, 1, 0] rfl)
  unfold wp_X6_partOf at h
  refine lv_lload_n hx hb dX6_partOf_0 rfl (lv_at hl 0 rfl) ?_
  refine lv_lconst (v := 0) hx hb dX6_partOf_1 (by decide) ?_
  refine W.lcmp hx hb dX6_partOf_2 ?_
  refine lv_if_ge (tgt := 11) hx hb dX6_partOf_3 (by decide) (fun hc => ?_) (fun hc => ?_)
  · have h := h.1 hc
    refine lv_lload_n hx hb dX6_partOf_11 rfl (lv_at hl 0 rfl) ?_
    refine lv_lstore (lv' := [(5, .long x0), (0, .long x0), (2, .long x2), (4, .int x4)]) hx hb dX6_partOf_12 hl (by decide) rfl (fun ls hl => ?_)
    refine lv_lload_n hx hb dX6_partOf_14 rfl (lv_at hl 2 rfl) ?_
    refine lv_lstore (lv' := [(7, .long x2), (5, .long x0), (0, .long x0), (2, .long x2), (4, .int x4)]) hx hb dX6_partOf_15 hl (by decide) rfl (fun ls hl => ?_)
    obtain ⟨n, h⟩ := h
    exact B17 n σ x0 x2 x4 x0 x2 _ _ _ h hP hS (lv_sub hl [2, 3, 4, 1, 0] rfl)
  · have h := h.2 hc
    refine lv_lload_n hx hb dX6_partOf_6 rfl (lv_at hl 0 rfl) ?_
    refine lv_lneg hx hb dX6_partOf_7 ?_
    refine lv_goto (tgt := 12) hx hb dX6_partOf_8 (by decide) ?_
    refine lv_lstore (lv' := [(5, .long (-x0)), (0, .long x0), (2, .long x2), (4, .int x4)]) hx hb dX6_partOf_12 hl (by decide) rfl (fun ls hl => ?_)
    refine lv_lload_n hx hb dX6_partOf_14 rfl (lv_at hl 2 rfl) ?_
    refine lv_lstore (lv' := [(7, .long x2), (5, .long (-x0)), (0, .long x0), (2, .long x2), (4, .int x4)]) hx hb dX6_partOf_15 hl (by decide) rfl (fun ls hl => ?_)
    obtain ⟨n, h⟩ := h
    exact B17 n σ x0 x2 x4 (-x0) x2 _ _ _ h hP hS (lv_sub hl [2, 3, 4, 1, 0] rfl)
theorem hd_X6_adds : yX6_adds.cls = RX6 ∧ yX6_adds.cls ≠ "java/lang/invoke/MethodHandle" ∧ yX6_adds.cls ≠ "java/lang/invoke/VarHandle" ∧ (parseMethodDescriptor yX6_adds.desc).map (fun d => d.parameters.length) = some 1 := by decide +kernel
set_option maxHeartbeats 4000000 in
set_option maxRecDepth 100000 in
theorem mt_X6_adds (l : Launch) {Z : ZW} (hZ : isM Z) (σ : SS) (sz : Nat) (x1 : Int32) (K : SS → Int32 → Prop) (h : wp_X6_adds σ x1 K) : mtZ l yX6_adds wsX6_adds (rm9 1 22) Z [.ref (zq Z 100), .int x1] σ sz (qcI Z K sz) := by
  refine Met.ofW (cc := cX6_adds) (maxL := 2) (ret := (some .int)) (by decide) rfl ?_
  intro p e s m args below meth c s₁ B hml hv
  obtain ⟨hargs, hsz, hP, hE1, hE2, hE3⟩ := hv
  subst hsz
  have hE : envZ Z s := ⟨hE1, hE2, hE3⟩
  have hx := B.exec
  have hb := B.bytes
  have hr := B.returns
  have hlocks := B.notSynchronized
  have hts := atoms_spec (ws := wsX6_adds) B.pre
  have hown : s.vm.findClass RX6 = some m.cls := findClass_of_methodNamed B.named
  have hS : SZ Z s s.heap [] := va_S.rf
  obtain ⟨ls, hef, hl⟩ := z_entry m hargs (n := 2) (Nat.le_of_ble_eq_true rfl)
  rw [hef]
  have hl : lv_has ls 2 [(0, .ref (zq Z 100)), (1, .int x1)] := hl
  have in6 : ∀ w ∈ u_ws RX6 TX6 28, w ∈ wsX6_adds := by decide +kernel
  have lk7 := hts (.fieldLink RX6 7 "BeatDoubtsModel" "delays" "[I") (by decide +kernel)
  have lk80 := hts (.fieldLink RX6 80 "BeatDoubtsModel" "many" "I") (by decide +kernel)
  unfold wp_X6_adds at h
  refine lv_iload_n hx hb dX6_adds_0 rfl (lv_at hl 1 rfl) ?_
  refine lv_iconst (v := (-1)) hx hb dX6_adds_1 (by decide) ?_
  refine lv_bipush (v := 99) hx hb dX6_adds_2 (by decide) ?_
  refine zc_SI (As := [.int x1, .int (-1), .int 99]) (rest := []) ⟨hx, hb, hml, hown, hts⟩ (va_cwS 3 hts gX6_adds_X6_in rfl rfl rfl hd_X6_in ⟨Nat.le_of_ble_eq_true rfl, Nat.le_of_ble_eq_true rfl⟩) (mt_X6_in l hZ σ _ x1 (-1) 99 _ h) hE hP hS rfl hl.1 rfl (Nat.le_of_ble_eq_true rfl) dX6_adds_4 ⟨Nat.zero_le _, Nat.zero_le _⟩ (fun r4 σ4 H locs h hP hS => ?_)
  refine lv_if_ne (tgt := 13) hx hb dX6_adds_7 (by decide) (fun hc => ?_) (fun hc => ?_)
  · have h := h.1 hc
    refine lv_aload_n hx hb dX6_adds_13 rfl (lv_at hl 0 rfl) ?_
    refine fg_6_1 hZ hx hb hts in6 hown hE hP kd100 lk80 dX6_adds_14 ?_
    refine lv_bipush (v := 40) hx hb dX6_adds_17 (by decide) ?_
    refine lv_icmp_ne (tgt := 25) hx hb dX6_adds_19 (by decide) (fun hc => ?_) (fun hc => ?_)
    · have h := h.1 hc
      refine lv_aload_n hx hb dX6_adds_25 rfl (lv_at hl 0 rfl) ?_
      refine fg_6_0 hZ hx hb hts in6 hown hE hP kd100 lk7 dX6_adds_26 ?_
      refine lv_aload_n hx hb dX6_adds_29 rfl (lv_at hl 0 rfl) ?_
      refine fg_6_1 hZ hx hb hts in6 hown hE hP kd100 lk80 dX6_adds_30 ?_
      refine lv_iload_n hx hb dX6_adds_33 rfl (lv_at hl 1 rfl) ?_
      obtain ⟨hin, h⟩ := h
      refine as_20 hZ hx hb hE hP hS kr_6_0 hin dX6_adds_34 (fun H locs hP hS => ?_)
      refine lv_aload_n hx hb dX6_adds_35 rfl (lv_at hl 0 rfl) ?_
      refine lv_dup hx hb dX6_adds_36 rfl ?_
      refine fg_6_1 hZ hx hb hts in6 hown hE hP kd100 lk80 dX6_adds_37 ?_
      refine lv_iconst (v := 1) hx hb dX6_adds_40 (by decide) ?_
      refine lv_iadd hx hb dX6_adds_41 ?_
      refine fp_6_1 hZ hx hb hts in6 hown hE hP hS kd100 lk80 dX6_adds_42 (fun H locs hP hS => ?_)
      refine lv_aload_n hx hb dX6_adds_45 rfl (lv_at hl 0 rfl) ?_
      refine fg_6_1 hZ hx hb hts in6 hown hE hP kd100 lk80 dX6_adds_46 ?_
      exact zr_I hx hb hr hlocks hP hS h dX6_adds_49
    · have h := h.2 hc
      refine lv_bipush (v := (-4)) hx hb dX6_adds_22 (by decide) ?_
      exact zr_I hx hb hr hlocks hP hS h dX6_adds_24
  · have h := h.2 hc
    refine lv_bipush (v := (-2)) hx hb dX6_adds_10 (by decide) ?_
    exact zr_I hx hb hr hlocks hP hS h dX6_adds_12
theorem hd_X6_beat : yX6_beat.cls = RX6 ∧ yX6_beat.cls ≠ "java/lang/invoke/MethodHandle" ∧ yX6_beat.cls ≠ "java/lang/invoke/VarHandle" ∧ (parseMethodDescriptor yX6_beat.desc).map (fun d => d.parameters.length) = some 1 := by decide +kernel
set_option maxHeartbeats 4000000 in
set_option maxRecDepth 100000 in
theorem mt_X6_beat (l : Launch) {Z : ZW} (hZ : isM Z) (σ : SS) (sz : Nat) (x1 : Int32) (K : SS → Int32 → Prop) (h : wp_X6_beat σ x1 K) : mtZ l yX6_beat wsX6_beat (rm9 2 43) Z [.ref (zq Z 100), .int x1] σ sz (qcI Z K sz) := by
  refine Met.ofW (cc := cX6_beat) (maxL := 2) (ret := (some .int)) (by decide) rfl ?_
  intro p e s m args below meth c s₁ B hml hv
  obtain ⟨hargs, hsz, hP, hE1, hE2, hE3⟩ := hv
  subst hsz
  have hE : envZ Z s := ⟨hE1, hE2, hE3⟩
  have hx := B.exec
  have hb := B.bytes
  have hr := B.returns
  have hlocks := B.notSynchronized
  have hts := atoms_spec (ws := wsX6_beat) B.pre
  have hown : s.vm.findClass RX6 = some m.cls := findClass_of_methodNamed B.named
  have hS : SZ Z s s.heap [] := va_S.rf
  obtain ⟨ls, hef, hl⟩ := z_entry m hargs (n := 2) (Nat.le_of_ble_eq_true rfl)
  rw [hef]
  have hl : lv_has ls 2 [(0, .ref (zq Z 100)), (1, .int x1)] := hl
  unfold wp_X6_beat at h
  refine lv_aload_n hx hb dX6_beat_0 rfl (lv_at hl 0 rfl) ?_
  refine lv_iload_n hx hb dX6_beat_1 rfl (lv_at hl 1 rfl) ?_
  refine zc_VI (As := [.int x1]) (rest := []) ⟨hx, hb, hml, hown, hts⟩ (cwV 1 hts gX6_beat_X6_adds rfl rfl rfl hd_X6_adds ⟨Nat.le_of_ble_eq_true rfl, Nat.le_of_ble_eq_true rfl⟩) (mt_X6_adds l hZ σ _ x1 _ h) (rc_6 hZ hE hP kd100) hE hP hS rfl hl.1 rfl (Nat.le_of_ble_eq_true rfl) dX6_beat_2 ⟨Nat.zero_le _, Nat.zero_le _⟩ (fun r2 σ2 H locs h hP hS => ?_)
  exact zr_I hx hb hr hlocks hP hS h dX6_beat_5
theorem hd_X6_beats : yX6_beats.cls = RX6 ∧ yX6_beats.cls ≠ "java/lang/invoke/MethodHandle" ∧ yX6_beats.cls ≠ "java/lang/invoke/VarHandle" ∧ (parseMethodDescriptor yX6_beats.desc).map (fun d => d.parameters.length) = some 3 := by decide +kernel
set_option maxHeartbeats 4000000 in
set_option maxRecDepth 100000 in
theorem mt_X6_beats (l : Launch) {Z : ZW} (hZ : isM Z) (σ : SS) (sz : Nat) (x1 : Int32) (x2 : Int32) (x3 : Int32) (K : SS → Int32 → Prop) (h : wp_X6_beats σ x1 x2 x3 K) : mtZ l yX6_beats wsX6_beats (rm9 2 43) Z [.ref (zq Z 100), .int x1, .int x2, .int x3] σ sz (qcI Z K sz) := by
  refine Met.ofW (cc := cX6_beats) (maxL := 6) (ret := (some .int)) (by decide) rfl ?_
  intro p e s m args below meth c s₁ B hml hv
  obtain ⟨hargs, hsz, hP, hE1, hE2, hE3⟩ := hv
  subst hsz
  have hE : envZ Z s := ⟨hE1, hE2, hE3⟩
  have hx := B.exec
  have hb := B.bytes
  have hr := B.returns
  have hlocks := B.notSynchronized
  have hts := atoms_spec (ws := wsX6_beats) B.pre
  have hown : s.vm.findClass RX6 = some m.cls := findClass_of_methodNamed B.named
  have hS : SZ Z s s.heap [] := va_S.rf
  obtain ⟨ls, hef, hl⟩ := z_entry m hargs (n := 6) (Nat.le_of_ble_eq_true rfl)
  rw [hef]
  have hl : lv_has ls 6 [(0, .ref (zq Z 100)), (1, .int x1), (2, .int x2), (3, .int x3)] := hl
  have B40 : ∀ (n : Nat) (σ : SS) (x2 : Int32) (x3 : Int32) (x4 : Int32) (x5 : Int32) (H : Heap) (locs : List Loc) (ls : Array Slot), fx5 (lb_X6_beats_40 K) n σ x2 x3 x4 x5 → PZ Z σ H → SZ Z s H locs → lv_has ls 6 [(0, .ref (zq Z 100)), (2, .int x2), (3, .int x3), (4, .int x4), (5, .int x5)] → W p l e (headSpec wsX6_beats (rm9 2 43)).room s m args below meth c H locs 0 0 (MQ below (qcI Z K s.heap.size) args s 0 0 (aZ Z s.heap.size)) (F0 m 40 ls []) := by
    intro n40
    induction n40 with
    | zero => intro σ x2 x3 x4 x5 H locs ls h; exact h.elim
    | succ n40 ih40 =>
      intro σ x2 x3 x4 x5 H locs ls h hP hS hl
      have h : lb_X6_beats_40 K (fx5 (lb_X6_beats_40 K) n40) σ x2 x3 x4 x5 := h
      unfold lb_X6_beats_40 at h
      refine lv_iload hx hb dX6_beats_40 (lv_at hl 4 rfl) ?_
      refine lv_iload_n hx hb dX6_beats_42 rfl (lv_at hl 2 rfl) ?_
      refine lv_icmp_ge (tgt := 73) hx hb dX6_beats_43 (by decide) (fun hc => ?_) (fun hc => ?_)
      · have h := h.1 hc
        refine lv_iload hx hb dX6_beats_73 (lv_at hl 4 rfl) ?_
        exact zr_I hx hb hr hlocks hP hS h dX6_beats_75
      · have h := h.2 hc
        refine lv_aload_n hx hb dX6_beats_46 rfl (lv_at hl 0 rfl) ?_
        refine lv_iload hx hb dX6_beats_47 (lv_at hl 3 rfl) ?_
        refine zc_VI (As := [.int x4]) (rest := []) ⟨hx, hb, hml, hown, hts⟩ (cwV 1 hts gX6_beats_X6_adds rfl rfl rfl hd_X6_adds ⟨Nat.le_of_ble_eq_true rfl, Nat.le_of_ble_eq_true rfl⟩) (mt_X6_adds l hZ σ _ x4 _ h) (rc_6 hZ hE hP kd100) hE hP hS rfl hl.1 rfl (Nat.le_of_ble_eq_true rfl) dX6_beats_49 ⟨Nat.zero_le _, Nat.zero_le _⟩ (fun r49 σ49 H locs h hP hS => ?_)
        refine lv_if_le (tgt := 73) hx hb dX6_beats_52 (by decide) (fun hc => ?_) (fun hc => ?_)
        · have h := h.1 hc
          refine lv_iload hx hb dX6_beats_73 (lv_at hl 4 rfl) ?_
          exact zr_I hx hb hr hlocks hP hS h dX6_beats_75
        · have h := h.2 hc
          refine lv_iload hx hb dX6_beats_55 (lv_at hl 3 rfl) ?_
          refine lv_iload_n hx hb dX6_beats_57 rfl (lv_at hl 1 rfl) ?_
          refine lv_iadd hx hb dX6_beats_58 ?_
          refine lv_bipush (v := 100) hx hb dX6_beats_59 (by decide) ?_
          refine lv_iadd hx hb dX6_beats_61 ?_
          refine lv_bipush (v := 100) hx hb dX6_beats_62 (by decide) ?_
          refine lv_irem hx hb dX6_beats_64 (by decide) ?_
          refine lv_istore (lv' := [(4, .int (((x4 + x2) + 100) - ((x4 + x2) + 100) / 100 * 100)), (0, .ref (zq Z 100)), (2, .int x2), (3, .int x3), (5, .int x5)]) hx hb dX6_beats_65 hl (by decide) rfl (fun ls hl => ?_)
          refine lv_iinc (v := (x5 + 1)) (lv' := [(5, .int (x5 + 1)), (4, .int (((x4 + x2) + 100) - ((x4 + x2) + 100) / 100 * 100)), (0, .ref (zq Z 100)), (2, .int x2), (3, .int x3)]) hx hb dX6_beats_67 hl (k := 4) rfl rfl (by decide) rfl (fun ls hl => ?_)
          refine lv_goto (tgt := 40) hx hb dX6_beats_70 (by decide) ?_
          exact ih40 σ49 x2 x3 (((x4 + x2) + 100) - ((x4 + x2) + 100) / 100 * 100) (x5 + 1) _ _ _ h hP hS (lv_sub hl [2, 3, 4, 1, 0] rfl)
  unfold wp_X6_beats at h
  refine lv_iload_n hx hb dX6_beats_0 rfl (lv_at hl 1 rfl) ?_
  refine lv_iconst (v := 0) hx hb dX6_beats_1 (by decide) ?_
  refine lv_bipush (v := 99) hx hb dX6_beats_2 (by decide) ?_
  refine zc_SI (As := [.int x1, .int 0, .int 99]) (rest := []) ⟨hx, hb, hml, hown, hts⟩ (va_cwS 3 hts gX6_beats_X6_in rfl rfl rfl hd_X6_in ⟨Nat.le_of_ble_eq_true rfl, Nat.le_of_ble_eq_true rfl⟩) (mt_X6_in l hZ σ _ x1 0 99 _ h) hE hP hS rfl hl.1 rfl (Nat.le_of_ble_eq_true rfl) dX6_beats_4 ⟨Nat.zero_le _, Nat.zero_le _⟩ (fun r4 σ4 H locs h hP hS => ?_)
  refine lv_if_eq (tgt := 31) hx hb dX6_beats_7 (by decide) (fun hc => ?_) (fun hc => ?_)
  · have h := h.1 hc
    refine lv_bipush (v := (-2)) hx hb dX6_beats_31 (by decide) ?_
    exact zr_I hx hb hr hlocks hP hS h dX6_beats_33
  · have h := h.2 hc
    refine lv_iload_n hx hb dX6_beats_10 rfl (lv_at hl 2 rfl) ?_
    refine lv_bipush (v := (-99)) hx hb dX6_beats_11 (by decide) ?_
    refine lv_bipush (v := 99) hx hb dX6_beats_13 (by decide) ?_
    refine zc_SI (As := [.int x2, .int (-99), .int 99]) (rest := []) ⟨hx, hb, hml, hown, hts⟩ (va_cwS 3 hts gX6_beats_X6_in rfl rfl rfl hd_X6_in ⟨Nat.le_of_ble_eq_true rfl, Nat.le_of_ble_eq_true rfl⟩) (mt_X6_in l hZ σ4 _ x2 (-99) 99 _ h) hE hP hS rfl hl.1 rfl (Nat.le_of_ble_eq_true rfl) dX6_beats_15 ⟨Nat.zero_le _, Nat.zero_le _⟩ (fun r15 σ15 H locs h hP hS => ?_)
    refine lv_if_eq (tgt := 31) hx hb dX6_beats_18 (by decide) (fun hc => ?_) (fun hc => ?_)
    · have h := h.1 hc
      refine lv_bipush (v := (-2)) hx hb dX6_beats_31 (by decide) ?_
      exact zr_I hx hb hr hlocks hP hS h dX6_beats_33
    · have h := h.2 hc
      refine lv_iload_n hx hb dX6_beats_21 rfl (lv_at hl 3 rfl) ?_
      refine lv_iconst (v := 1) hx hb dX6_beats_22 (by decide) ?_
      refine lv_bipush (v := 40) hx hb dX6_beats_23 (by decide) ?_
      refine zc_SI (As := [.int x3, .int 1, .int 40]) (rest := []) ⟨hx, hb, hml, hown, hts⟩ (va_cwS 3 hts gX6_beats_X6_in rfl rfl rfl hd_X6_in ⟨Nat.le_of_ble_eq_true rfl, Nat.le_of_ble_eq_true rfl⟩) (mt_X6_in l hZ σ15 _ x3 1 40 _ h) hE hP hS rfl hl.1 rfl (Nat.le_of_ble_eq_true rfl) dX6_beats_25 ⟨Nat.zero_le _, Nat.zero_le _⟩ (fun r25 σ25 H locs h hP hS => ?_)
      refine lv_if_ne (tgt := 34) hx hb dX6_beats_28 (by decide) (fun hc => ?_) (fun hc => ?_)
      · have h := h.1 hc
        refine lv_iload_n hx hb dX6_beats_34 rfl (lv_at hl 1 rfl) ?_
        refine lv_istore (lv' := [(4, .int x1), (0, .ref (zq Z 100)), (1, .int x1), (2, .int x2), (3, .int x3)]) hx hb dX6_beats_35 hl (by decide) rfl (fun ls hl => ?_)
        refine lv_iconst (v := 0) hx hb dX6_beats_37 (by decide) ?_
        refine lv_istore (lv' := [(5, .int 0), (4, .int x1), (0, .ref (zq Z 100)), (1, .int x1), (2, .int x2), (3, .int x3)]) hx hb dX6_beats_38 hl (by decide) rfl (fun ls hl => ?_)
        obtain ⟨n, h⟩ := h
        exact B40 n σ25 x2 x3 x1 0 _ _ _ h hP hS (lv_sub hl [2, 4, 5, 1, 0] rfl)
      · have h := h.2 hc
        refine lv_bipush (v := (-2)) hx hb dX6_beats_31 (by decide) ?_
        exact zr_I hx hb hr hlocks hP hS h dX6_beats_33
theorem hd_X6_isBeat : yX6_isBeat.cls = RX6 ∧ yX6_isBeat.cls ≠ "java/lang/invoke/MethodHandle" ∧ yX6_isBeat.cls ≠ "java/lang/invoke/VarHandle" ∧ (parseMethodDescriptor yX6_isBeat.desc).map (fun d => d.parameters.length) = some 1 := by decide +kernel
set_option maxHeartbeats 4000000 in
set_option maxRecDepth 100000 in
theorem mt_X6_isBeat (l : Launch) {Z : ZW} (hZ : isM Z) (σ : SS) (sz : Nat) (x1 : Int32) (K : SS → Int32 → Prop) (h : wp_X6_isBeat σ x1 K) : mtZ l yX6_isBeat wsX6_isBeat (rm9 1 22) Z [.ref (zq Z 100), .int x1] σ sz (qcI Z K sz) := by
  refine Met.ofW (cc := cX6_isBeat) (maxL := 2) (ret := (some .boolean)) (by decide) rfl ?_
  intro p e s m args below meth c s₁ B hml hv
  obtain ⟨hargs, hsz, hP, hE1, hE2, hE3⟩ := hv
  subst hsz
  have hE : envZ Z s := ⟨hE1, hE2, hE3⟩
  have hx := B.exec
  have hb := B.bytes
  have hr := B.returns
  have hlocks := B.notSynchronized
  have hts := atoms_spec (ws := wsX6_isBeat) B.pre
  have hown : s.vm.findClass RX6 = some m.cls := findClass_of_methodNamed B.named
  have hS : SZ Z s s.heap [] := va_S.rf
  obtain ⟨ls, hef, hl⟩ := z_entry m hargs (n := 2) (Nat.le_of_ble_eq_true rfl)
  rw [hef]
  have hl : lv_has ls 2 [(0, .ref (zq Z 100)), (1, .int x1)] := hl
  have in6 : ∀ w ∈ u_ws RX6 TX6 28, w ∈ wsX6_isBeat := by decide +kernel
  have lk80 := hts (.fieldLink RX6 80 "BeatDoubtsModel" "many" "I") (by decide +kernel)
  unfold wp_X6_isBeat at h
  refine lv_iload_n hx hb dX6_isBeat_0 rfl (lv_at hl 1 rfl) ?_
  refine lv_iconst (v := 0) hx hb dX6_isBeat_1 (by decide) ?_
  refine lv_aload_n hx hb dX6_isBeat_2 rfl (lv_at hl 0 rfl) ?_
  refine fg_6_1 hZ hx hb hts in6 hown hE hP kd100 lk80 dX6_isBeat_3 ?_
  refine lv_iconst (v := 1) hx hb dX6_isBeat_6 (by decide) ?_
  refine lv_isub hx hb dX6_isBeat_7 ?_
  refine zc_SI (As := [.int x1, .int 0, .int ((gI σ 100 1) - 1)]) (rest := []) ⟨hx, hb, hml, hown, hts⟩ (va_cwS 3 hts gX6_isBeat_X6_in rfl rfl rfl hd_X6_in ⟨Nat.le_of_ble_eq_true rfl, Nat.le_of_ble_eq_true rfl⟩) (mt_X6_in l hZ σ _ x1 0 ((gI σ 100 1) - 1) _ h) hE hP hS rfl hl.1 rfl (Nat.le_of_ble_eq_true rfl) dX6_isBeat_8 ⟨Nat.zero_le _, Nat.zero_le _⟩ (fun r8 σ8 H locs h hP hS => ?_)
  exact zr_Z hx hb hr hlocks hP hS h.1 h.2 dX6_isBeat_11
theorem hd_X6_delay : yX6_delay.cls = RX6 ∧ yX6_delay.cls ≠ "java/lang/invoke/MethodHandle" ∧ yX6_delay.cls ≠ "java/lang/invoke/VarHandle" ∧ (parseMethodDescriptor yX6_delay.desc).map (fun d => d.parameters.length) = some 2 := by decide +kernel
set_option maxHeartbeats 4000000 in
set_option maxRecDepth 100000 in
theorem mt_X6_delay (l : Launch) {Z : ZW} (hZ : isM Z) (σ : SS) (sz : Nat) (x1 : Int32) (x2 : Int32) (K : SS → Int32 → Prop) (h : wp_X6_delay σ x1 x2 K) : mtZ l yX6_delay wsX6_delay (rm9 2 43) Z [.ref (zq Z 100), .int x1, .int x2] σ sz (qcI Z K sz) := by
  refine Met.ofW (cc := cX6_delay) (maxL := 4) (ret := (some .int)) (by decide) rfl ?_
  intro p e s m args below meth c s₁ B hml hv
  obtain ⟨hargs, hsz, hP, hE1, hE2, hE3⟩ := hv
  subst hsz
  have hE : envZ Z s := ⟨hE1, hE2, hE3⟩
  have hx := B.exec
  have hb := B.bytes
  have hr := B.returns
  have hlocks := B.notSynchronized
  have hts := atoms_spec (ws := wsX6_delay) B.pre
  have hown : s.vm.findClass RX6 = some m.cls := findClass_of_methodNamed B.named
  have hS : SZ Z s s.heap [] := va_S.rf
  obtain ⟨ls, hef, hl⟩ := z_entry m hargs (n := 4) (Nat.le_of_ble_eq_true rfl)
  rw [hef]
  have hl : lv_has ls 4 [(0, .ref (zq Z 100)), (1, .int x1), (2, .int x2)] := hl
  have in6 : ∀ w ∈ u_ws RX6 TX6 28, w ∈ wsX6_delay := by decide +kernel
  have lk7 := hts (.fieldLink RX6 7 "BeatDoubtsModel" "delays" "[I") (by decide +kernel)
  unfold wp_X6_delay at h
  refine lv_aload_n hx hb dX6_delay_0 rfl (lv_at hl 0 rfl) ?_
  refine lv_iload_n hx hb dX6_delay_1 rfl (lv_at hl 1 rfl) ?_
  refine zc_VI (As := [.int x1]) (rest := []) ⟨hx, hb, hml, hown, hts⟩ (cwV 1 hts gX6_delay_X6_isBeat rfl rfl rfl hd_X6_isBeat ⟨Nat.le_of_ble_eq_true rfl, Nat.le_of_ble_eq_true rfl⟩) (mt_X6_isBeat l hZ σ _ x1 _ h) (rc_6 hZ hE hP kd100) hE hP hS rfl hl.1 rfl (Nat.le_of_ble_eq_true rfl) dX6_delay_2 ⟨Nat.zero_le _, Nat.zero_le _⟩ (fun r2 σ2 H locs h hP hS => ?_)
  refine lv_if_eq (tgt := 18) hx hb dX6_delay_5 (by decide) (fun hc => ?_) (fun hc => ?_)
  · have h := h.1 hc
    refine lv_bipush (v := (-2)) hx hb dX6_delay_18 (by decide) ?_
    exact zr_I hx hb hr hlocks hP hS h dX6_delay_20
  · have h := h.2 hc
    refine lv_iload_n hx hb dX6_delay_8 rfl (lv_at hl 2 rfl) ?_
    refine lv_iconst (v := (-1)) hx hb dX6_delay_9 (by decide) ?_
    refine lv_bipush (v := 99) hx hb dX6_delay_10 (by decide) ?_
    refine zc_SI (As := [.int x2, .int (-1), .int 99]) (rest := []) ⟨hx, hb, hml, hown, hts⟩ (va_cwS 3 hts gX6_delay_X6_in rfl rfl rfl hd_X6_in ⟨Nat.le_of_ble_eq_true rfl, Nat.le_of_ble_eq_true rfl⟩) (mt_X6_in l hZ σ2 _ x2 (-1) 99 _ h) hE hP hS rfl hl.1 rfl (Nat.le_of_ble_eq_true rfl) dX6_delay_12 ⟨Nat.zero_le _, Nat.zero_le _⟩ (fun r12 σ12 H locs h hP hS => ?_)
    refine lv_if_ne (tgt := 21) hx hb dX6_delay_15 (by decide) (fun hc => ?_) (fun hc => ?_)
    · have h := h.1 hc
      refine lv_aload_n hx hb dX6_delay_21 rfl (lv_at hl 0 rfl) ?_
      refine fg_6_0 hZ hx hb hts in6 hown hE hP kd100 lk7 dX6_delay_22 ?_
      refine lv_iload_n hx hb dX6_delay_25 rfl (lv_at hl 1 rfl) ?_
      obtain ⟨hin, h⟩ := h
      refine al_20 hZ hx hb hE hP kr_6_0 hin dX6_delay_26 ?_
      refine lv_istore_n (lv' := [(3, .int (gA σ12 101 x1.toNatClampNeg)), (0, .ref (zq Z 100)), (1, .int x1), (2, .int x2)]) hx hb dX6_delay_27 rfl hl (by decide) rfl (fun ls hl => ?_)
      refine lv_aload_n hx hb dX6_delay_28 rfl (lv_at hl 1 rfl) ?_
      refine fg_6_0 hZ hx hb hts in6 hown hE hP kd100 lk7 dX6_delay_29 ?_
      refine lv_iload_n hx hb dX6_delay_32 rfl (lv_at hl 2 rfl) ?_
      refine lv_iload_n hx hb dX6_delay_33 rfl (lv_at hl 3 rfl) ?_
      obtain ⟨hin, h⟩ := h
      refine as_20 hZ hx hb hE hP hS kr_6_0 hin dX6_delay_34 (fun H locs hP hS => ?_)
      refine lv_iload_n hx hb dX6_delay_35 rfl (lv_at hl 0 rfl) ?_
      exact zr_I hx hb hr hlocks hP hS h dX6_delay_36
    · have h := h.2 hc
      refine lv_bipush (v := (-2)) hx hb dX6_delay_18 (by decide) ?_
      exact zr_I hx hb hr hlocks hP hS h dX6_delay_20
theorem hd_X6_back : yX6_back.cls = RX6 ∧ yX6_back.cls ≠ "java/lang/invoke/MethodHandle" ∧ yX6_back.cls ≠ "java/lang/invoke/VarHandle" ∧ (parseMethodDescriptor yX6_back.desc).map (fun d => d.parameters.length) = some 0 := by decide +kernel
set_option maxHeartbeats 4000000 in
set_option maxRecDepth 100000 in
theorem mt_X6_back (l : Launch) {Z : ZW} (hZ : isM Z) (σ : SS) (sz : Nat) (K : SS → Int32 → Prop) (h : wp_X6_back σ K) : mtZ l yX6_back wsX6_back (rm9 0 0) Z [.ref (zq Z 100)] σ sz (qcI Z K sz) := by
  refine Met.ofW (cc := cX6_back) (maxL := 1) (ret := (some .int)) (by decide) rfl ?_
  intro p e s m args below meth c s₁ B hml hv
  obtain ⟨hargs, hsz, hP, hE1, hE2, hE3⟩ := hv
  subst hsz
  have hE : envZ Z s := ⟨hE1, hE2, hE3⟩
  have hx := B.exec
  have hb := B.bytes
  have hr := B.returns
  have hlocks := B.notSynchronized
  have hts := atoms_spec (ws := wsX6_back) B.pre
  have hown : s.vm.findClass RX6 = some m.cls := findClass_of_methodNamed B.named
  have hS : SZ Z s s.heap [] := va_S.rf
  obtain ⟨ls, hef, hl⟩ := z_entry m hargs (n := 1) (Nat.le_of_ble_eq_true rfl)
  rw [hef]
  have hl : lv_has ls 1 [(0, .ref (zq Z 100))] := hl
  have in6 : ∀ w ∈ u_ws RX6 TX6 28, w ∈ wsX6_back := by decide +kernel
  have lk80 := hts (.fieldLink RX6 80 "BeatDoubtsModel" "many" "I") (by decide +kernel)
  unfold wp_X6_back at h
  refine lv_aload_n hx hb dX6_back_0 rfl (lv_at hl 0 rfl) ?_
  refine fg_6_1 hZ hx hb hts in6 hown hE hP kd100 lk80 dX6_back_1 ?_
  refine lv_if_ne (tgt := 10) hx hb dX6_back_4 (by decide) (fun hc => ?_) (fun hc => ?_)
  · have h := h.1 hc
    refine lv_aload_n hx hb dX6_back_10 rfl (lv_at hl 0 rfl) ?_
    refine lv_dup hx hb dX6_back_11 rfl ?_
    refine fg_6_1 hZ hx hb hts in6 hown hE hP kd100 lk80 dX6_back_12 ?_
    refine lv_iconst (v := 1) hx hb dX6_back_15 (by decide) ?_
    refine lv_isub hx hb dX6_back_16 ?_
    refine fp_6_1 hZ hx hb hts in6 hown hE hP hS kd100 lk80 dX6_back_17 (fun H locs hP hS => ?_)
    refine lv_aload_n hx hb dX6_back_20 rfl (lv_at hl 0 rfl) ?_
    refine fg_6_1 hZ hx hb hts in6 hown hE hP kd100 lk80 dX6_back_21 ?_
    exact zr_I hx hb hr hlocks hP hS h dX6_back_24
  · have h := h.2 hc
    refine lv_bipush (v := (-3)) hx hb dX6_back_7 (by decide) ?_
    exact zr_I hx hb hr hlocks hP hS h dX6_back_9
theorem hd_X6_set : yX6_set.cls = RX6 ∧ yX6_set.cls ≠ "java/lang/invoke/MethodHandle" ∧ yX6_set.cls ≠ "java/lang/invoke/VarHandle" ∧ (parseMethodDescriptor yX6_set.desc).map (fun d => d.parameters.length) = some 2 := by decide +kernel
set_option maxHeartbeats 4000000 in
set_option maxRecDepth 100000 in
theorem mt_X6_set (l : Launch) {Z : ZW} (hZ : isM Z) (σ : SS) (sz : Nat) (x1 : Int32) (x2 : Int32) (K : SS → Int32 → Prop) (h : wp_X6_set σ x1 x2 K) : mtZ l yX6_set wsX6_set (rm9 1 22) Z [.ref (zq Z 100), .int x1, .int x2] σ sz (qcI Z K sz) := by
  refine Met.ofW (cc := cX6_set) (maxL := 4) (ret := (some .int)) (by decide) rfl ?_
  intro p e s m args below meth c s₁ B hml hv
  obtain ⟨hargs, hsz, hP, hE1, hE2, hE3⟩ := hv
  subst hsz
  have hE : envZ Z s := ⟨hE1, hE2, hE3⟩
  have hx := B.exec
  have hb := B.bytes
  have hr := B.returns
  have hlocks := B.notSynchronized
  have hts := atoms_spec (ws := wsX6_set) B.pre
  have hown : s.vm.findClass RX6 = some m.cls := findClass_of_methodNamed B.named
  have hS : SZ Z s s.heap [] := va_S.rf
  obtain ⟨ls, hef, hl⟩ := z_entry m hargs (n := 4) (Nat.le_of_ble_eq_true rfl)
  rw [hef]
  have hl : lv_has ls 4 [(0, .ref (zq Z 100)), (1, .int x1), (2, .int x2)] := hl
  have in6 : ∀ w ∈ u_ws RX6 TX6 28, w ∈ wsX6_set := by decide +kernel
  have lk13 := hts (.fieldLink RX6 13 "BeatDoubtsModel" "periodNow" "I") (by decide +kernel)
  have lk17 := hts (.fieldLink RX6 17 "BeatDoubtsModel" "windowNow" "I") (by decide +kernel)
  have B50 : ∀ (σ : SS) (x1 : Int32) (x2 : Int32) (k0 : Int32) (H : Heap) (locs : List Loc) (ls : Array Slot), bl_X6_set_50 K σ x1 x2 k0 → PZ Z σ H → SZ Z s H locs → lv_has ls 4 [(0, .ref (zq Z 100)), (1, .int x1), (2, .int x2)] → W p l e (headSpec wsX6_set (rm9 1 22)).room s m args below meth c H locs 0 0 (MQ below (qcI Z K s.heap.size) args s 0 0 (aZ Z s.heap.size)) (F0 m 50 ls [.int k0]) := by
    intro σ x1 x2 k0 H locs ls h hP hS hl
    unfold bl_X6_set_50 at h
    refine lv_istore_n (lv' := [(3, .int k0), (0, .ref (zq Z 100)), (1, .int x1), (2, .int x2)]) hx hb dX6_set_50 rfl hl (by decide) rfl (fun ls hl => ?_)
    refine lv_iload_n hx hb dX6_set_51 rfl (lv_at hl 2 rfl) ?_
    refine lv_if_ne (tgt := 63) hx hb dX6_set_52 (by decide) (fun hc => ?_) (fun hc => ?_)
    · have h := h.1 hc
      refine lv_aload_n hx hb dX6_set_63 rfl (lv_at hl 1 rfl) ?_
      refine lv_iload_n hx hb dX6_set_64 rfl (lv_at hl 3 rfl) ?_
      refine fp_6_3 hZ hx hb hts in6 hown hE hP hS kd100 lk17 dX6_set_65 (fun H locs hP hS => ?_)
      refine lv_iload_n hx hb dX6_set_68 rfl (lv_at hl 0 rfl) ?_
      exact zr_I hx hb hr hlocks hP hS h dX6_set_69
    · have h := h.2 hc
      refine lv_aload_n hx hb dX6_set_55 rfl (lv_at hl 1 rfl) ?_
      refine lv_iload_n hx hb dX6_set_56 rfl (lv_at hl 3 rfl) ?_
      refine fp_6_2 hZ hx hb hts in6 hown hE hP hS kd100 lk13 dX6_set_57 (fun H locs hP hS => ?_)
      refine lv_goto (tgt := 68) hx hb dX6_set_60 (by decide) ?_
      refine lv_iload_n hx hb dX6_set_68 rfl (lv_at hl 0 rfl) ?_
      exact zr_I hx hb hr hlocks hP hS h dX6_set_69
  unfold wp_X6_set at h
  refine lv_iload_n hx hb dX6_set_0 rfl (lv_at hl 1 rfl) ?_
  refine lv_if_ne (tgt := 17) hx hb dX6_set_1 (by decide) (fun hc => ?_) (fun hc => ?_)
  · have h := h.1 hc
    refine lv_iload_n hx hb dX6_set_17 rfl (lv_at hl 1 rfl) ?_
    refine lv_iconst (v := 1) hx hb dX6_set_18 (by decide) ?_
    refine lv_icmp_ne (tgt := 32) hx hb dX6_set_19 (by decide) (fun hc => ?_) (fun hc => ?_)
    · have h := h.1 hc
      refine lv_bipush (v := (-2)) hx hb dX6_set_32 (by decide) ?_
      exact zr_I hx hb hr hlocks hP hS h dX6_set_34
    · have h := h.2 hc
      refine lv_iload_n hx hb dX6_set_22 rfl (lv_at hl 2 rfl) ?_
      refine lv_iconst (v := 1) hx hb dX6_set_23 (by decide) ?_
      refine lv_bipush (v := 16) hx hb dX6_set_24 (by decide) ?_
      refine zc_SI (As := [.int x2, .int 1, .int 16]) (rest := []) ⟨hx, hb, hml, hown, hts⟩ (va_cwS 3 hts gX6_set_X6_in rfl rfl rfl hd_X6_in ⟨Nat.le_of_ble_eq_true rfl, Nat.le_of_ble_eq_true rfl⟩) (mt_X6_in l hZ σ _ x2 1 16 _ h) hE hP hS rfl hl.1 rfl (Nat.le_of_ble_eq_true rfl) dX6_set_26 ⟨Nat.zero_le _, Nat.zero_le _⟩ (fun r26 σ26 H locs h hP hS => ?_)
      refine lv_if_ne (tgt := 35) hx hb dX6_set_29 (by decide) (fun hc => ?_) (fun hc => ?_)
      · have h := h.1 hc
        refine lv_iload_n hx hb dX6_set_35 rfl (lv_at hl 1 rfl) ?_
        refine lv_if_ne (tgt := 46) hx hb dX6_set_36 (by decide) (fun hc => ?_) (fun hc => ?_)
        · have h := h.1 hc
          refine lv_aload_n hx hb dX6_set_46 rfl (lv_at hl 0 rfl) ?_
          refine fg_6_3 hZ hx hb hts in6 hown hE hP kd100 lk17 dX6_set_47 ?_
          exact B50 σ26 x1 x2 (gI σ26 100 3) _ _ _ h hP hS (lv_sub hl [0, 1, 2] rfl)
        · have h := h.2 hc
          refine lv_aload_n hx hb dX6_set_39 rfl (lv_at hl 0 rfl) ?_
          refine fg_6_2 hZ hx hb hts in6 hown hE hP kd100 lk13 dX6_set_40 ?_
          refine lv_goto (tgt := 50) hx hb dX6_set_43 (by decide) ?_
          exact B50 σ26 x1 x2 (gI σ26 100 2) _ _ _ h hP hS (lv_sub hl [0, 1, 2] rfl)
      · have h := h.2 hc
        refine lv_bipush (v := (-2)) hx hb dX6_set_32 (by decide) ?_
        exact zr_I hx hb hr hlocks hP hS h dX6_set_34
  · have h := h.2 hc
    refine lv_iload_n hx hb dX6_set_4 rfl (lv_at hl 2 rfl) ?_
    refine lv_iconst (v := 1) hx hb dX6_set_5 (by decide) ?_
    refine lv_bipush (v := 50) hx hb dX6_set_6 (by decide) ?_
    refine zc_SI (As := [.int x2, .int 1, .int 50]) (rest := []) ⟨hx, hb, hml, hown, hts⟩ (va_cwS 3 hts gX6_set_X6_in rfl rfl rfl hd_X6_in ⟨Nat.le_of_ble_eq_true rfl, Nat.le_of_ble_eq_true rfl⟩) (mt_X6_in l hZ σ _ x2 1 50 _ h) hE hP hS rfl hl.1 rfl (Nat.le_of_ble_eq_true rfl) dX6_set_8 ⟨Nat.zero_le _, Nat.zero_le _⟩ (fun r8 σ8 H locs h hP hS => ?_)
    refine lv_if_ne (tgt := 35) hx hb dX6_set_11 (by decide) (fun hc => ?_) (fun hc => ?_)
    · have h := h.1 hc
      refine lv_iload_n hx hb dX6_set_35 rfl (lv_at hl 1 rfl) ?_
      refine lv_if_ne (tgt := 46) hx hb dX6_set_36 (by decide) (fun hc => ?_) (fun hc => ?_)
      · have h := h.1 hc
        refine lv_aload_n hx hb dX6_set_46 rfl (lv_at hl 0 rfl) ?_
        refine fg_6_3 hZ hx hb hts in6 hown hE hP kd100 lk17 dX6_set_47 ?_
        exact B50 σ8 x1 x2 (gI σ8 100 3) _ _ _ h hP hS (lv_sub hl [0, 1, 2] rfl)
      · have h := h.2 hc
        refine lv_aload_n hx hb dX6_set_39 rfl (lv_at hl 0 rfl) ?_
        refine fg_6_2 hZ hx hb hts in6 hown hE hP kd100 lk13 dX6_set_40 ?_
        refine lv_goto (tgt := 50) hx hb dX6_set_43 (by decide) ?_
        exact B50 σ8 x1 x2 (gI σ8 100 2) _ _ _ h hP hS (lv_sub hl [0, 1, 2] rfl)
    · have h := h.2 hc
      refine lv_goto (tgt := 32) hx hb dX6_set_14 (by decide) ?_
      refine lv_bipush (v := (-2)) hx hb dX6_set_32 (by decide) ?_
      exact zr_I hx hb hr hlocks hP hS h dX6_set_34
theorem hd_X6_silence : yX6_silence.cls = RX6 ∧ yX6_silence.cls ≠ "java/lang/invoke/MethodHandle" ∧ yX6_silence.cls ≠ "java/lang/invoke/VarHandle" ∧ (parseMethodDescriptor yX6_silence.desc).map (fun d => d.parameters.length) = some 1 := by decide +kernel
set_option maxHeartbeats 4000000 in
set_option maxRecDepth 100000 in
theorem mt_X6_silence (l : Launch) {Z : ZW} (hZ : isM Z) (σ : SS) (sz : Nat) (x1 : Int32) (K : SS → Int32 → Prop) (h : wp_X6_silence σ x1 K) : mtZ l yX6_silence wsX6_silence (rm9 1 22) Z [.ref (zq Z 100), .int x1] σ sz (qcI Z K sz) := by
  refine Met.ofW (cc := cX6_silence) (maxL := 3) (ret := (some .int)) (by decide) rfl ?_
  intro p e s m args below meth c s₁ B hml hv
  obtain ⟨hargs, hsz, hP, hE1, hE2, hE3⟩ := hv
  subst hsz
  have hE : envZ Z s := ⟨hE1, hE2, hE3⟩
  have hx := B.exec
  have hb := B.bytes
  have hr := B.returns
  have hlocks := B.notSynchronized
  have hts := atoms_spec (ws := wsX6_silence) B.pre
  have hown : s.vm.findClass RX6 = some m.cls := findClass_of_methodNamed B.named
  have hS : SZ Z s s.heap [] := va_S.rf
  obtain ⟨ls, hef, hl⟩ := z_entry m hargs (n := 3) (Nat.le_of_ble_eq_true rfl)
  rw [hef]
  have hl : lv_has ls 3 [(0, .ref (zq Z 100)), (1, .int x1)] := hl
  have in6 : ∀ w ∈ u_ws RX6 TX6 28, w ∈ wsX6_silence := by decide +kernel
  have lk20 := hts (.fieldLink RX6 20 "BeatDoubtsModel" "silenceAt" "I") (by decide +kernel)
  unfold wp_X6_silence at h
  refine lv_iload_n hx hb dX6_silence_0 rfl (lv_at hl 1 rfl) ?_
  refine lv_iconst (v := (-1)) hx hb dX6_silence_1 (by decide) ?_
  refine lv_sipush (v := 5000) hx hb dX6_silence_2 (by decide) ?_
  refine zc_SI (As := [.int x1, .int (-1), .int 5000]) (rest := []) ⟨hx, hb, hml, hown, hts⟩ (va_cwS 3 hts gX6_silence_X6_in rfl rfl rfl hd_X6_in ⟨Nat.le_of_ble_eq_true rfl, Nat.le_of_ble_eq_true rfl⟩) (mt_X6_in l hZ σ _ x1 (-1) 5000 _ h) hE hP hS rfl hl.1 rfl (Nat.le_of_ble_eq_true rfl) dX6_silence_5 ⟨Nat.zero_le _, Nat.zero_le _⟩ (fun r5 σ5 H locs h hP hS => ?_)
  refine lv_if_ne (tgt := 14) hx hb dX6_silence_8 (by decide) (fun hc => ?_) (fun hc => ?_)
  · have h := h.1 hc
    refine lv_aload_n hx hb dX6_silence_14 rfl (lv_at hl 0 rfl) ?_
    refine fg_6_4 hZ hx hb hts in6 hown hE hP kd100 lk20 dX6_silence_15 ?_
    refine lv_istore_n (lv' := [(2, .int (gI σ5 100 4)), (0, .ref (zq Z 100)), (1, .int x1)]) hx hb dX6_silence_18 rfl hl (by decide) rfl (fun ls hl => ?_)
    refine lv_aload_n hx hb dX6_silence_19 rfl (lv_at hl 1 rfl) ?_
    refine lv_iload_n hx hb dX6_silence_20 rfl (lv_at hl 2 rfl) ?_
    refine fp_6_4 hZ hx hb hts in6 hown hE hP hS kd100 lk20 dX6_silence_21 (fun H locs hP hS => ?_)
    refine lv_iload_n hx hb dX6_silence_24 rfl (lv_at hl 0 rfl) ?_
    exact zr_I hx hb hr hlocks hP hS h dX6_silence_25
  · have h := h.2 hc
    refine lv_bipush (v := (-2)) hx hb dX6_silence_11 (by decide) ?_
    exact zr_I hx hb hr hlocks hP hS h dX6_silence_13
theorem hd_X6_isSheet : yX6_isSheet.cls ≠ "java/lang/invoke/MethodHandle" ∧ yX6_isSheet.cls ≠ "java/lang/invoke/VarHandle" ∧ (parseMethodDescriptor yX6_isSheet.desc).map (fun d => d.parameters.length) = some 1 := by decide +kernel
set_option maxHeartbeats 4000000 in
set_option maxRecDepth 100000 in
theorem mt_X6_isSheet (l : Launch) {Z : ZW} (hZ : isM Z) (σ : SS) (sz : Nat) (x0 : Int32) (K : SS → Int32 → Prop) (h : wp_X6_isSheet σ x0 K) : mtZ l yX6_isSheet wsX6_isSheet (rm9 1 22) Z [.int x0] σ sz (qcI Z K sz) := by
  refine Met.ofW (cc := cX6_isSheet) (maxL := 1) (ret := (some .boolean)) (by decide) rfl ?_
  intro p e s m args below meth c s₁ B hml hv
  obtain ⟨hargs, hsz, hP, hE1, hE2, hE3⟩ := hv
  subst hsz
  have hE : envZ Z s := ⟨hE1, hE2, hE3⟩
  have hx := B.exec
  have hb := B.bytes
  have hr := B.returns
  have hlocks := B.notSynchronized
  have hts := atoms_spec (ws := wsX6_isSheet) B.pre
  have hown : s.vm.findClass RX6 = some m.cls := findClass_of_methodNamed B.named
  have hS : SZ Z s s.heap [] := va_S.rf
  obtain ⟨ls, hef, hl⟩ := z_entry m hargs (n := 1) (Nat.le_of_ble_eq_true rfl)
  rw [hef]
  have hl : lv_has ls 1 [(0, .int x0)] := hl
  unfold wp_X6_isSheet at h
  refine lv_iload_n hx hb dX6_isSheet_0 rfl (lv_at hl 0 rfl) ?_
  refine lv_iconst (v := 0) hx hb dX6_isSheet_1 (by decide) ?_
  refine lv_iconst (v := 3) hx hb dX6_isSheet_2 (by decide) ?_
  refine zc_SI (As := [.int x0, .int 0, .int 3]) (rest := []) ⟨hx, hb, hml, hown, hts⟩ (va_cwS 3 hts gX6_isSheet_X6_in rfl rfl rfl hd_X6_in ⟨Nat.le_of_ble_eq_true rfl, Nat.le_of_ble_eq_true rfl⟩) (mt_X6_in l hZ σ _ x0 0 3 _ h) hE hP hS rfl hl.1 rfl (Nat.le_of_ble_eq_true rfl) dX6_isSheet_3 ⟨Nat.zero_le _, Nat.zero_le _⟩ (fun r3 σ3 H locs h hP hS => ?_)
  exact zr_Z hx hb hr hlocks hP hS h.1 h.2 dX6_isSheet_6
theorem hd_X6_meets : yX6_meets.cls = RX6 ∧ yX6_meets.cls ≠ "java/lang/invoke/MethodHandle" ∧ yX6_meets.cls ≠ "java/lang/invoke/VarHandle" ∧ (parseMethodDescriptor yX6_meets.desc).map (fun d => d.parameters.length) = some 1 := by decide +kernel
set_option maxHeartbeats 4000000 in
set_option maxRecDepth 100000 in
theorem mt_X6_meets (l : Launch) {Z : ZW} (hZ : isM Z) (σ : SS) (sz : Nat) (x1 : Int32) (K : SS → Int32 → Prop) (h : wp_X6_meets σ x1 K) : mtZ l yX6_meets wsX6_meets (rm9 0 0) Z [.ref (zq Z 100), .int x1] σ sz (qcI Z K sz) := by
  refine Met.ofW (cc := cX6_meets) (maxL := 2) (ret := (some .int)) (by decide) rfl ?_
  intro p e s m args below meth c s₁ B hml hv
  obtain ⟨hargs, hsz, hP, hE1, hE2, hE3⟩ := hv
  subst hsz
  have hE : envZ Z s := ⟨hE1, hE2, hE3⟩
  have hx := B.exec
  have hb := B.bytes
  have hr := B.returns
  have hlocks := B.notSynchronized
  have hts := atoms_spec (ws := wsX6_meets) B.pre
  have hown : s.vm.findClass RX6 = some m.cls := findClass_of_methodNamed B.named
  have hS : SZ Z s s.heap [] := va_S.rf
  obtain ⟨ls, hef, hl⟩ := z_entry m hargs (n := 2) (Nat.le_of_ble_eq_true rfl)
  rw [hef]
  have hl : lv_has ls 2 [(0, .ref (zq Z 100)), (1, .int x1)] := hl
  have in6 : ∀ w ∈ u_ws RX6 TX6 28, w ∈ wsX6_meets := by decide +kernel
  have lk231 := hts (.fieldLink RX6 231 "BeatDoubtsModel" "finding" "I") (by decide +kernel)
  unfold wp_X6_meets at h
  refine lv_aload_n hx hb dX6_meets_0 rfl (lv_at hl 0 rfl) ?_
  refine lv_iload_n hx hb dX6_meets_1 rfl (lv_at hl 1 rfl) ?_
  refine fp_6_27 hZ hx hb hts in6 hown hE hP hS kd100 lk231 dX6_meets_2 (fun H locs hP hS => ?_)
  refine lv_bipush (v := (-10)) hx hb dX6_meets_5 (by decide) ?_
  refine lv_iload_n hx hb dX6_meets_7 rfl (lv_at hl 1 rfl) ?_
  refine lv_isub hx hb dX6_meets_8 ?_
  exact zr_I hx hb hr hlocks hP hS h dX6_meets_9
theorem hd_X6_read : yX6_read.cls = RX6 ∧ yX6_read.cls ≠ "java/lang/invoke/MethodHandle" ∧ yX6_read.cls ≠ "java/lang/invoke/VarHandle" ∧ (parseMethodDescriptor yX6_read.desc).map (fun d => d.parameters.length) = some 1 := by decide +kernel
set_option maxHeartbeats 4000000 in
set_option maxRecDepth 100000 in
theorem mt_X6_read (l : Launch) {Z : ZW} (hZ : isM Z) (σ : SS) (sz : Nat) (x1 : Int32) (K : SS → Int32 → Prop) (h : wp_X6_read σ x1 K) : mtZ l yX6_read wsX6_read (rm9 2 43) Z [.ref (zq Z 100), .int x1] σ sz (qcI Z K sz) := by
  refine Met.ofW (cc := cX6_read) (maxL := 3) (ret := (some .int)) (by decide) rfl ?_
  intro p e s m args below meth c s₁ B hml hv
  obtain ⟨hargs, hsz, hP, hE1, hE2, hE3⟩ := hv
  subst hsz
  have hE : envZ Z s := ⟨hE1, hE2, hE3⟩
  have hx := B.exec
  have hb := B.bytes
  have hr := B.returns
  have hlocks := B.notSynchronized
  have hts := atoms_spec (ws := wsX6_read) B.pre
  have hown : s.vm.findClass RX6 = some m.cls := findClass_of_methodNamed B.named
  have hS : SZ Z s s.heap [] := va_S.rf
  obtain ⟨ls, hef, hl⟩ := z_entry m hargs (n := 3) (Nat.le_of_ble_eq_true rfl)
  rw [hef]
  have hl : lv_has ls 3 [(0, .ref (zq Z 100)), (1, .int x1)] := hl
  have in6 : ∀ w ∈ u_ws RX6 TX6 28, w ∈ wsX6_read := by decide +kernel
  have lk48 := hts (.fieldLink RX6 48 "BeatDoubtsModel" "forms" "[I") (by decide +kernel)
  have lk51 := hts (.fieldLink RX6 51 "BeatDoubtsModel" "sizes" "[I") (by decide +kernel)
  have lk54 := hts (.fieldLink RX6 54 "BeatDoubtsModel" "wholes" "[J") (by decide +kernel)
  have lk97 := hts (.constantLong RX6 97 (-1)) (by decide +kernel)
  have lk99 := hts (.constantLong RX6 99 (99)) (by decide +kernel)
  have B41 : ∀ (n : Nat) (σ : SS) (x1 : Int32) (x2 : Int32) (H : Heap) (locs : List Loc) (ls : Array Slot), fx3 (lb_X6_read_41 K) n σ x1 x2 → PZ Z σ H → SZ Z s H locs → lv_has ls 3 [(0, .ref (zq Z 100)), (1, .int x1), (2, .int x2)] → W p l e (headSpec wsX6_read (rm9 2 43)).room s m args below meth c H locs 0 0 (MQ below (qcI Z K s.heap.size) args s 0 0 (aZ Z s.heap.size)) (F0 m 41 ls []) := by
    intro n41
    induction n41 with
    | zero => intro σ x1 x2 H locs ls h; exact h.elim
    | succ n41 ih41 =>
      intro σ x1 x2 H locs ls h hP hS hl
      have h : lb_X6_read_41 K (fx3 (lb_X6_read_41 K) n41) σ x1 x2 := h
      unfold lb_X6_read_41 at h
      refine lv_iload_n hx hb dX6_read_41 rfl (lv_at hl 2 rfl) ?_
      refine lv_aload_n hx hb dX6_read_42 rfl (lv_at hl 0 rfl) ?_
      refine fg_6_20 hZ hx hb hts in6 hown hE hP kd100 lk51 dX6_read_43 ?_
      refine lv_iload_n hx hb dX6_read_46 rfl (lv_at hl 1 rfl) ?_
      obtain ⟨hin, h⟩ := h
      refine al_22 hZ hx hb hE hP kr_6_20 hin dX6_read_47 ?_
      refine lv_icmp_ge (tgt := 112) hx hb dX6_read_48 (by decide) (fun hc => ?_) (fun hc => ?_)
      · have h := h.1 hc
        refine lv_iload_n hx hb dX6_read_112 rfl (lv_at hl 2 rfl) ?_
        exact zr_I hx hb hr hlocks hP hS h dX6_read_113
      · have h := h.2 hc
        refine lv_aload_n hx hb dX6_read_51 rfl (lv_at hl 0 rfl) ?_
        refine fg_6_21 hZ hx hb hts in6 hown hE hP kd100 lk54 dX6_read_52 ?_
        refine lv_bipush (v := 40) hx hb dX6_read_55 (by decide) ?_
        refine lv_iload_n hx hb dX6_read_57 rfl (lv_at hl 1 rfl) ?_
        refine lv_imul hx hb dX6_read_58 ?_
        refine lv_iload_n hx hb dX6_read_59 rfl (lv_at hl 2 rfl) ?_
        refine lv_iadd hx hb dX6_read_60 ?_
        obtain ⟨hin, h⟩ := h
        refine al_25 hZ hx hb hE hP kr_6_21 hin dX6_read_61 ?_
        refine lv_ldc2 (v := (-1)) hx hb hown lk97 dX6_read_62 ?_
        refine W.lcmp hx hb dX6_read_65 ?_
        refine lv_if_lt (tgt := 112) hx hb dX6_read_66 (by decide) (fun hc => ?_) (fun hc => ?_)
        · have h := h.1 hc
          refine lv_iload_n hx hb dX6_read_112 rfl (lv_at hl 2 rfl) ?_
          exact zr_I hx hb hr hlocks hP hS h dX6_read_113
        · have h := h.2 hc
          refine lv_aload_n hx hb dX6_read_69 rfl (lv_at hl 0 rfl) ?_
          refine fg_6_21 hZ hx hb hts in6 hown hE hP kd100 lk54 dX6_read_70 ?_
          refine lv_bipush (v := 40) hx hb dX6_read_73 (by decide) ?_
          refine lv_iload_n hx hb dX6_read_75 rfl (lv_at hl 1 rfl) ?_
          refine lv_imul hx hb dX6_read_76 ?_
          refine lv_iload_n hx hb dX6_read_77 rfl (lv_at hl 2 rfl) ?_
          refine lv_iadd hx hb dX6_read_78 ?_
          obtain ⟨hin, h⟩ := h
          refine al_25 hZ hx hb hE hP kr_6_21 hin dX6_read_79 ?_
          refine lv_ldc2 (v := 99) hx hb hown lk99 dX6_read_80 ?_
          refine W.lcmp hx hb dX6_read_83 ?_
          refine lv_if_gt (tgt := 112) hx hb dX6_read_84 (by decide) (fun hc => ?_) (fun hc => ?_)
          · have h := h.1 hc
            refine lv_iload_n hx hb dX6_read_112 rfl (lv_at hl 2 rfl) ?_
            exact zr_I hx hb hr hlocks hP hS h dX6_read_113
          · have h := h.2 hc
            refine lv_aload_n hx hb dX6_read_87 rfl (lv_at hl 0 rfl) ?_
            refine lv_aload_n hx hb dX6_read_88 rfl (lv_at hl 0 rfl) ?_
            refine fg_6_21 hZ hx hb hts in6 hown hE hP kd100 lk54 dX6_read_89 ?_
            refine lv_bipush (v := 40) hx hb dX6_read_92 (by decide) ?_
            refine lv_iload_n hx hb dX6_read_94 rfl (lv_at hl 1 rfl) ?_
            refine lv_imul hx hb dX6_read_95 ?_
            refine lv_iload_n hx hb dX6_read_96 rfl (lv_at hl 2 rfl) ?_
            refine lv_iadd hx hb dX6_read_97 ?_
            obtain ⟨hin, h⟩ := h
            refine al_25 hZ hx hb hE hP kr_6_21 hin dX6_read_98 ?_
            refine lv_l2i hx hb dX6_read_99 rfl ?_
            refine zc_VI (As := [.int (gL σ 112 ((40 * x1) + x2).toNatClampNeg).toInt32]) (rest := []) ⟨hx, hb, hml, hown, hts⟩ (cwV 1 hts gX6_read_X6_adds rfl rfl rfl hd_X6_adds ⟨Nat.le_of_ble_eq_true rfl, Nat.le_of_ble_eq_true rfl⟩) (mt_X6_adds l hZ σ _ ((gL σ 112 ((40 * x1) + x2).toNatClampNeg).toInt32) _ h) (rc_6 hZ hE hP kd100) hE hP hS rfl hl.1 rfl (Nat.le_of_ble_eq_true rfl) dX6_read_100 ⟨Nat.zero_le _, Nat.zero_le _⟩ (fun r100 σ100 H locs h hP hS => ?_)
            refine lv_if_le (tgt := 112) hx hb dX6_read_103 (by decide) (fun hc => ?_) (fun hc => ?_)
            · have h := h.1 hc
              refine lv_iload_n hx hb dX6_read_112 rfl (lv_at hl 2 rfl) ?_
              exact zr_I hx hb hr hlocks hP hS h dX6_read_113
            · have h := h.2 hc
              refine lv_iinc (v := (x2 + 1)) (lv' := [(2, .int (x2 + 1)), (0, .ref (zq Z 100)), (1, .int x1)]) hx hb dX6_read_106 hl (k := 2) rfl rfl (by decide) rfl (fun ls hl => ?_)
              refine lv_goto (tgt := 41) hx hb dX6_read_109 (by decide) ?_
              exact ih41 σ100 x1 (x2 + 1) _ _ _ h hP hS (lv_sub hl [1, 2, 0] rfl)
  unfold wp_X6_read at h
  refine lv_iload_n hx hb dX6_read_0 rfl (lv_at hl 1 rfl) ?_
  refine zc_SI (As := [.int x1]) (rest := []) ⟨hx, hb, hml, hown, hts⟩ (va_cwS 1 hts gX6_read_X6_isSheet rfl rfl rfl hd_X6_isSheet ⟨Nat.le_of_ble_eq_true rfl, Nat.le_of_ble_eq_true rfl⟩) (mt_X6_isSheet l hZ σ _ x1 _ h) hE hP hS rfl hl.1 rfl (Nat.le_of_ble_eq_true rfl) dX6_read_1 ⟨Nat.zero_le _, Nat.zero_le _⟩ (fun r1 σ1 H locs h hP hS => ?_)
  refine lv_if_ne (tgt := 10) hx hb dX6_read_4 (by decide) (fun hc => ?_) (fun hc => ?_)
  · have h := h.1 hc
    refine lv_aload_n hx hb dX6_read_10 rfl (lv_at hl 0 rfl) ?_
    refine fg_6_19 hZ hx hb hts in6 hown hE hP kd100 lk48 dX6_read_11 ?_
    refine lv_iload_n hx hb dX6_read_14 rfl (lv_at hl 1 rfl) ?_
    obtain ⟨hin, h⟩ := h
    refine al_22 hZ hx hb hE hP kr_6_19 hin dX6_read_15 ?_
    refine lv_if_eq (tgt := 39) hx hb dX6_read_16 (by decide) (fun hc => ?_) (fun hc => ?_)
    · have h := h.1 hc
      refine lv_iconst (v := 0) hx hb dX6_read_39 (by decide) ?_
      refine lv_istore_n (lv' := [(2, .int 0), (0, .ref (zq Z 100)), (1, .int x1)]) hx hb dX6_read_40 rfl hl (by decide) rfl (fun ls hl => ?_)
      obtain ⟨n, h⟩ := h
      exact B41 n σ1 x1 0 _ _ _ h hP hS (lv_sub hl [1, 2, 0] rfl)
    · have h := h.2 hc
      refine lv_aload_n hx hb dX6_read_19 rfl (lv_at hl 0 rfl) ?_
      refine lv_aload_n hx hb dX6_read_20 rfl (lv_at hl 0 rfl) ?_
      refine fg_6_19 hZ hx hb hts in6 hown hE hP kd100 lk48 dX6_read_21 ?_
      refine lv_iload_n hx hb dX6_read_24 rfl (lv_at hl 1 rfl) ?_
      obtain ⟨hin, h⟩ := h
      refine al_22 hZ hx hb hE hP kr_6_19 hin dX6_read_25 ?_
      refine lv_iconst (v := (-1)) hx hb dX6_read_26 (by decide) ?_
      refine lv_icmp_ne (tgt := 34) hx hb dX6_read_27 (by decide) (fun hc => ?_) (fun hc => ?_)
      · have h := h.1 hc
        refine lv_iconst (v := 3) hx hb dX6_read_34 (by decide) ?_
        refine zc_VI (As := [.int 3]) (rest := []) ⟨hx, hb, hml, hown, hts⟩ (cwV 1 hts gX6_read_X6_meets rfl rfl rfl hd_X6_meets ⟨Nat.le_of_ble_eq_true rfl, Nat.le_of_ble_eq_true rfl⟩) (mt_X6_meets l hZ σ1 _ 3 _ h) (rc_6 hZ hE hP kd100) hE hP hS rfl hl.1 rfl (Nat.le_of_ble_eq_true rfl) dX6_read_35 ⟨Nat.zero_le _, Nat.zero_le _⟩ (fun r35 σ35 H locs h hP hS => ?_)
        exact zr_I hx hb hr hlocks hP hS h dX6_read_38
      · have h := h.2 hc
        refine lv_iconst (v := 1) hx hb dX6_read_30 (by decide) ?_
        refine lv_goto (tgt := 35) hx hb dX6_read_31 (by decide) ?_
        refine zc_VI (As := [.int 1]) (rest := []) ⟨hx, hb, hml, hown, hts⟩ (cwV 1 hts gX6_read_X6_meets rfl rfl rfl hd_X6_meets ⟨Nat.le_of_ble_eq_true rfl, Nat.le_of_ble_eq_true rfl⟩) (mt_X6_meets l hZ σ1 _ 1 _ h) (rc_6 hZ hE hP kd100) hE hP hS rfl hl.1 rfl (Nat.le_of_ble_eq_true rfl) dX6_read_35 ⟨Nat.zero_le _, Nat.zero_le _⟩ (fun r35 σ35 H locs h hP hS => ?_)
        exact zr_I hx hb hr hlocks hP hS h dX6_read_38
  · have h := h.2 hc
    refine lv_bipush (v := (-2)) hx hb dX6_read_7 (by decide) ?_
    exact zr_I hx hb hr hlocks hP hS h dX6_read_9
theorem hd_X6_isLost : yX6_isLost.cls = RX6 ∧ yX6_isLost.cls ≠ "java/lang/invoke/MethodHandle" ∧ yX6_isLost.cls ≠ "java/lang/invoke/VarHandle" ∧ (parseMethodDescriptor yX6_isLost.desc).map (fun d => d.parameters.length) = some 1 := by decide +kernel
set_option maxHeartbeats 4000000 in
set_option maxRecDepth 100000 in
theorem mt_X6_isLost (l : Launch) {Z : ZW} (hZ : isM Z) (σ : SS) (sz : Nat) (x1 : Int32) (K : SS → Int32 → Prop) (h : wp_X6_isLost σ x1 K) : mtZ l yX6_isLost wsX6_isLost (rm9 0 0) Z [.ref (zq Z 100), .int x1] σ sz (qcI Z K sz) := by
  refine Met.ofW (cc := cX6_isLost) (maxL := 2) (ret := (some .boolean)) (by decide) rfl ?_
  intro p e s m args below meth c s₁ B hml hv
  obtain ⟨hargs, hsz, hP, hE1, hE2, hE3⟩ := hv
  subst hsz
  have hE : envZ Z s := ⟨hE1, hE2, hE3⟩
  have hx := B.exec
  have hb := B.bytes
  have hr := B.returns
  have hlocks := B.notSynchronized
  have hts := atoms_spec (ws := wsX6_isLost) B.pre
  have hown : s.vm.findClass RX6 = some m.cls := findClass_of_methodNamed B.named
  have hS : SZ Z s s.heap [] := va_S.rf
  obtain ⟨ls, hef, hl⟩ := z_entry m hargs (n := 2) (Nat.le_of_ble_eq_true rfl)
  rw [hef]
  have hl : lv_has ls 2 [(0, .ref (zq Z 100)), (1, .int x1)] := hl
  have in6 : ∀ w ∈ u_ws RX6 TX6 28, w ∈ wsX6_isLost := by decide +kernel
  have lk13 := hts (.fieldLink RX6 13 "BeatDoubtsModel" "periodNow" "I") (by decide +kernel)
  have lk20 := hts (.fieldLink RX6 20 "BeatDoubtsModel" "silenceAt" "I") (by decide +kernel)
  have lk7 := hts (.fieldLink RX6 7 "BeatDoubtsModel" "delays" "[I") (by decide +kernel)
  unfold wp_X6_isLost at h
  refine lv_aload_n hx hb dX6_isLost_0 rfl (lv_at hl 0 rfl) ?_
  refine fg_6_0 hZ hx hb hts in6 hown hE hP kd100 lk7 dX6_isLost_1 ?_
  refine lv_iload_n hx hb dX6_isLost_4 rfl (lv_at hl 1 rfl) ?_
  obtain ⟨hin, h⟩ := h
  refine al_20 hZ hx hb hE hP kr_6_0 hin dX6_isLost_5 ?_
  refine lv_iconst (v := (-1)) hx hb dX6_isLost_6 (by decide) ?_
  refine lv_icmp_eq (tgt := 31) hx hb dX6_isLost_7 (by decide) (fun hc => ?_) (fun hc => ?_)
  · have h := h.1 hc
    refine lv_iconst (v := 1) hx hb dX6_isLost_31 (by decide) ?_
    refine lv_goto (tgt := 36) hx hb dX6_isLost_32 (by decide) ?_
    exact zr_Z hx hb hr hlocks hP hS (by decide) h dX6_isLost_36
  · have h := h.2 hc
    refine lv_aload_n hx hb dX6_isLost_10 rfl (lv_at hl 0 rfl) ?_
    refine fg_6_4 hZ hx hb hts in6 hown hE hP kd100 lk20 dX6_isLost_11 ?_
    refine lv_iconst (v := (-1)) hx hb dX6_isLost_14 (by decide) ?_
    refine lv_icmp_eq (tgt := 35) hx hb dX6_isLost_15 (by decide) (fun hc => ?_) (fun hc => ?_)
    · have h := h.1 hc
      refine lv_iconst (v := 0) hx hb dX6_isLost_35 (by decide) ?_
      exact zr_Z hx hb hr hlocks hP hS (by decide) h dX6_isLost_36
    · have h := h.2 hc
      refine lv_iload_n hx hb dX6_isLost_18 rfl (lv_at hl 1 rfl) ?_
      refine lv_aload_n hx hb dX6_isLost_19 rfl (lv_at hl 0 rfl) ?_
      refine fg_6_2 hZ hx hb hts in6 hown hE hP kd100 lk13 dX6_isLost_20 ?_
      refine lv_imul hx hb dX6_isLost_23 ?_
      refine lv_aload_n hx hb dX6_isLost_24 rfl (lv_at hl 0 rfl) ?_
      refine fg_6_4 hZ hx hb hts in6 hown hE hP kd100 lk20 dX6_isLost_25 ?_
      refine lv_icmp_lt (tgt := 35) hx hb dX6_isLost_28 (by decide) (fun hc => ?_) (fun hc => ?_)
      · have h := h.1 hc
        refine lv_iconst (v := 0) hx hb dX6_isLost_35 (by decide) ?_
        exact zr_Z hx hb hr hlocks hP hS (by decide) h dX6_isLost_36
      · have h := h.2 hc
        refine lv_iconst (v := 1) hx hb dX6_isLost_31 (by decide) ?_
        refine lv_goto (tgt := 36) hx hb dX6_isLost_32 (by decide) ?_
        exact zr_Z hx hb hr hlocks hP hS (by decide) h dX6_isLost_36
theorem hd_X6_timeOf : yX6_timeOf.cls = RX6 ∧ yX6_timeOf.cls ≠ "java/lang/invoke/MethodHandle" ∧ yX6_timeOf.cls ≠ "java/lang/invoke/VarHandle" ∧ (parseMethodDescriptor yX6_timeOf.desc).map (fun d => d.parameters.length) = some 1 := by decide +kernel
set_option maxHeartbeats 4000000 in
set_option maxRecDepth 100000 in
theorem mt_X6_timeOf (l : Launch) {Z : ZW} (hZ : isM Z) (σ : SS) (sz : Nat) (x1 : Int32) (K : SS → Int32 → Prop) (h : wp_X6_timeOf σ x1 K) : mtZ l yX6_timeOf wsX6_timeOf (rm9 1 21) Z [.ref (zq Z 100), .int x1] σ sz (qcI Z K sz) := by
  refine Met.ofW (cc := cX6_timeOf) (maxL := 2) (ret := (some .int)) (by decide) rfl ?_
  intro p e s m args below meth c s₁ B hml hv
  obtain ⟨hargs, hsz, hP, hE1, hE2, hE3⟩ := hv
  subst hsz
  have hE : envZ Z s := ⟨hE1, hE2, hE3⟩
  have hx := B.exec
  have hb := B.bytes
  have hr := B.returns
  have hlocks := B.notSynchronized
  have hts := atoms_spec (ws := wsX6_timeOf) B.pre
  have hown : s.vm.findClass RX6 = some m.cls := findClass_of_methodNamed B.named
  have hS : SZ Z s s.heap [] := va_S.rf
  obtain ⟨ls, hef, hl⟩ := z_entry m hargs (n := 2) (Nat.le_of_ble_eq_true rfl)
  rw [hef]
  have hl : lv_has ls 2 [(0, .ref (zq Z 100)), (1, .int x1)] := hl
  have in6 : ∀ w ∈ u_ws RX6 TX6 28, w ∈ wsX6_timeOf := by decide +kernel
  have lk13 := hts (.fieldLink RX6 13 "BeatDoubtsModel" "periodNow" "I") (by decide +kernel)
  have lk7 := hts (.fieldLink RX6 7 "BeatDoubtsModel" "delays" "[I") (by decide +kernel)
  unfold wp_X6_timeOf at h
  refine lv_aload_n hx hb dX6_timeOf_0 rfl (lv_at hl 0 rfl) ?_
  refine lv_iload_n hx hb dX6_timeOf_1 rfl (lv_at hl 1 rfl) ?_
  refine zc_VI (As := [.int x1]) (rest := []) ⟨hx, hb, hml, hown, hts⟩ (cwV 1 hts gX6_timeOf_X6_isLost rfl rfl rfl hd_X6_isLost ⟨Nat.le_of_ble_eq_true rfl, Nat.le_of_ble_eq_true rfl⟩) (mt_X6_isLost l hZ σ _ x1 _ h) (rc_6 hZ hE hP kd100) hE hP hS rfl hl.1 rfl (Nat.le_of_ble_eq_true rfl) dX6_timeOf_2 ⟨Nat.zero_le _, Nat.zero_le _⟩ (fun r2 σ2 H locs h hP hS => ?_)
  refine lv_if_eq (tgt := 12) hx hb dX6_timeOf_5 (by decide) (fun hc => ?_) (fun hc => ?_)
  · have h := h.1 hc
    refine lv_iload_n hx hb dX6_timeOf_12 rfl (lv_at hl 1 rfl) ?_
    refine lv_aload_n hx hb dX6_timeOf_13 rfl (lv_at hl 0 rfl) ?_
    refine fg_6_2 hZ hx hb hts in6 hown hE hP kd100 lk13 dX6_timeOf_14 ?_
    refine lv_imul hx hb dX6_timeOf_17 ?_
    refine lv_aload_n hx hb dX6_timeOf_18 rfl (lv_at hl 0 rfl) ?_
    refine fg_6_0 hZ hx hb hts in6 hown hE hP kd100 lk7 dX6_timeOf_19 ?_
    refine lv_iload_n hx hb dX6_timeOf_22 rfl (lv_at hl 1 rfl) ?_
    obtain ⟨hin, h⟩ := h
    refine al_20 hZ hx hb hE hP kr_6_0 hin dX6_timeOf_23 ?_
    refine lv_iadd hx hb dX6_timeOf_24 ?_
    exact zr_I hx hb hr hlocks hP hS h dX6_timeOf_25
  · have h := h.2 hc
    refine lv_iconst (v := (-1)) hx hb dX6_timeOf_8 (by decide) ?_
    refine lv_goto (tgt := 25) hx hb dX6_timeOf_9 (by decide) ?_
    exact zr_I hx hb hr hlocks hP hS h dX6_timeOf_25
