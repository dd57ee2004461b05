theorem hd_X4_begin : yX4_begin.cls = RX4 ∧ yX4_begin.cls ≠ "java/lang/invoke/MethodHandle" ∧ yX4_begin.cls ≠ "java/lang/invoke/VarHandle" ∧ (parseMethodDescriptor yX4_begin.desc).map (fun d => d.parameters.length) = some 2 := by decide +kernel
set_option maxHeartbeats 4000000 in
set_option maxRecDepth 100000 in
theorem mt_X4_begin (l : Launch) {Z : ZW} (hZ : isC Z) (σ : SS) (sz : Nat) {p0 : Nat} (hk0 : kd p0 = 4) (x1 : Int32) (x2 : Int32) (K : SS → Prop) (h : wp_X4_begin σ p0 x1 x2 K) : mtZ l yX4_begin wsX4_begin (rm9 0 0) Z [.ref (zq Z p0), .int x1, .int x2] σ sz (qcV Z K sz) := by
  refine Met.ofW (cc := cX4_begin) (maxL := 3) (ret := none) (by decide) rfl ?_
  intro p e s m args below meth c s₁ B hml hv
  obtain ⟨hargs, hsz, hP, hE1, hE2, hE3⟩ := hv
  subst hsz
  have hE : envZ Z s := ⟨hE1, hE2, hE3⟩
  have hx := B.exec
  have hb := B.bytes
  have hr := B.returns
  have hlocks := B.notSynchronized
  have hts := atoms_spec (ws := wsX4_begin) B.pre
  have hown : s.vm.findClass RX4 = some m.cls := findClass_of_methodNamed B.named
  have hS : SZ Z s s.heap [] := va_S.rf
  obtain ⟨ls, hef, hl⟩ := z_entry m hargs (n := 3) (Nat.le_of_ble_eq_true rfl)
  rw [hef]
  have hl : lv_has ls 3 [(0, .ref (zq Z p0)), (1, .int x1), (2, .int x2)] := hl
  have in4 : ∀ w ∈ u_ws RX4 TX4 5, w ∈ wsX4_begin := by decide +kernel
  have lk18 := hts (.fieldLink RX4 18 "BeatDoubts$Watcher" "sort" "I") (by decide +kernel)
  have lk22 := hts (.fieldLink RX4 22 "BeatDoubts$Watcher" "measure" "I") (by decide +kernel)
  have lk25 := hts (.fieldLink RX4 25 "BeatDoubts$Watcher" "notice" "I") (by decide +kernel)
  have lk28 := hts (.fieldLink RX4 28 "BeatDoubts$Watcher" "few" "I") (by decide +kernel)
  unfold wp_X4_begin at h
  refine lv_aload_n hx hb dX4_begin_0 rfl (lv_at hl 0 rfl) ?_
  refine lv_iload_n hx hb dX4_begin_1 rfl (lv_at hl 1 rfl) ?_
  refine fp_4_0 hZ hx hb hts in4 hown hE hP hS hk0 lk18 dX4_begin_2 (fun H locs hP hS => ?_)
  refine lv_aload_n hx hb dX4_begin_5 rfl (lv_at hl 0 rfl) ?_
  refine lv_iload_n hx hb dX4_begin_6 rfl (lv_at hl 2 rfl) ?_
  refine fp_4_1 hZ hx hb hts in4 hown hE hP hS hk0 lk22 dX4_begin_7 (fun H locs hP hS => ?_)
  refine lv_aload_n hx hb dX4_begin_10 rfl (lv_at hl 0 rfl) ?_
  refine lv_iconst (v := (-1)) hx hb dX4_begin_11 (by decide) ?_
  refine fp_4_2 hZ hx hb hts in4 hown hE hP hS hk0 lk25 dX4_begin_12 (fun H locs hP hS => ?_)
  refine lv_aload_n hx hb dX4_begin_15 rfl (lv_at hl 0 rfl) ?_
  refine lv_iconst (v := (-1)) hx hb dX4_begin_16 (by decide) ?_
  refine fp_4_3 hZ hx hb hts in4 hown hE hP hS hk0 lk28 dX4_begin_17 (fun H locs hP hS => ?_)
  exact zr_V hx hb hr hlocks hP hS h dX4_begin_20
theorem hd_X4_keepsWishes : yX4_keepsWishes.cls = RX4 ∧ yX4_keepsWishes.cls ≠ "java/lang/invoke/MethodHandle" ∧ yX4_keepsWishes.cls ≠ "java/lang/invoke/VarHandle" ∧ (parseMethodDescriptor yX4_keepsWishes.desc).map (fun d => d.parameters.length) = some 1 := by decide +kernel
set_option maxHeartbeats 4000000 in
set_option maxRecDepth 100000 in
theorem mt_X4_keepsWishes (l : Launch) {Z : ZW} (hZ : isC Z) (σ : SS) (sz : Nat) {p0 : Nat} {p1 : Nat} (hk0 : kd p0 = 4) (hk1 : kd p1 = 1) (K : SS → Int32 → Prop) (h : wp_X4_keepsWishes σ p0 p1 K) : mtZ l yX4_keepsWishes wsX4_keepsWishes (rm9 0 0) Z [.ref (zq Z p0), .ref (zq Z p1)] σ sz (qcI Z K sz) := by
  refine Met.ofW (cc := cX4_keepsWishes) (maxL := 2) (ret := (some .boolean)) (by decide) rfl ?_
  intro p e s m args below meth c s₁ B hml hv
  obtain ⟨hargs, hsz, hP, hE1, hE2, hE3⟩ := hv
  subst hsz
  have hE : envZ Z s := ⟨hE1, hE2, hE3⟩
  have hx := B.exec
  have hb := B.bytes
  have hr := B.returns
  have hlocks := B.notSynchronized
  have hts := atoms_spec (ws := wsX4_keepsWishes) B.pre
  have hown : s.vm.findClass RX4 = some m.cls := findClass_of_methodNamed B.named
  have hS : SZ Z s s.heap [] := va_S.rf
  obtain ⟨ls, hef, hl⟩ := z_entry m hargs (n := 2) (Nat.le_of_ble_eq_true rfl)
  rw [hef]
  have hl : lv_has ls 2 [(0, .ref (zq Z p0)), (1, .ref (zq Z p1))] := hl
  have in1 : ∀ w ∈ u_ws RX1 TX1 8, w ∈ wsX4_keepsWishes := by decide +kernel
  have in4 : ∀ w ∈ u_ws RX4 TX4 5, w ∈ wsX4_keepsWishes := by decide +kernel
  have lk25 := hts (.fieldLink RX4 25 "BeatDoubts$Watcher" "notice" "I") (by decide +kernel)
  have lk28 := hts (.fieldLink RX4 28 "BeatDoubts$Watcher" "few" "I") (by decide +kernel)
  have lk31 := hts (.fieldLink RX4 31 "BeatDoubts$Diary" "lag" "I") (by decide +kernel)
  have lk34 := hts (.fieldLink RX4 34 "BeatDoubts$Diary" "mistakeCount" "I") (by decide +kernel)
  have B19 : ∀ (σ : SS) (H : Heap) (locs : List Loc) (ls : Array Slot), bl_X4_keepsWishes_19 K p0 p1 σ → PZ Z σ H → SZ Z s H locs → lv_has ls 2 [(0, .ref (zq Z p0)), (1, .ref (zq Z p1))] → W p l e (headSpec wsX4_keepsWishes (rm9 0 0)).room s m args below meth c H locs 0 0 (MQ below (qcI Z K s.heap.size) args s 0 0 (aZ Z s.heap.size)) (F0 m 19 ls []) := by
    intro σ H locs ls h hP hS hl
    unfold bl_X4_keepsWishes_19 at h
    refine lv_aload_n hx hb dX4_keepsWishes_19 rfl (lv_at hl 0 rfl) ?_
    refine fg_4_3 hZ hx hb hts in4 hown hE hP hk0 lk28 dX4_keepsWishes_20 ?_
    refine lv_iconst (v := (-1)) hx hb dX4_keepsWishes_23 (by decide) ?_
    refine lv_icmp_eq (tgt := 38) hx hb dX4_keepsWishes_24 (by decide) (fun hc => ?_) (fun hc => ?_)
    · have h := h.1 hc
      refine lv_iconst (v := 1) hx hb dX4_keepsWishes_38 (by decide) ?_
      refine lv_goto (tgt := 43) hx hb dX4_keepsWishes_39 (by decide) ?_
      exact zr_Z hx hb hr hlocks hP hS (by decide) h dX4_keepsWishes_43
    · have h := h.2 hc
      refine lv_aload_n hx hb dX4_keepsWishes_27 rfl (lv_at hl 1 rfl) ?_
      refine fg_1_3 hZ hx hb hts in1 hown hE hP hk1 lk34 dX4_keepsWishes_28 ?_
      refine lv_aload_n hx hb dX4_keepsWishes_31 rfl (lv_at hl 0 rfl) ?_
      refine fg_4_3 hZ hx hb hts in4 hown hE hP hk0 lk28 dX4_keepsWishes_32 ?_
      refine lv_icmp_gt (tgt := 42) hx hb dX4_keepsWishes_35 (by decide) (fun hc => ?_) (fun hc => ?_)
      · have h := h.1 hc
        refine lv_iconst (v := 0) hx hb dX4_keepsWishes_42 (by decide) ?_
        exact zr_Z hx hb hr hlocks hP hS (by decide) h dX4_keepsWishes_43
      · have h := h.2 hc
        refine lv_iconst (v := 1) hx hb dX4_keepsWishes_38 (by decide) ?_
        refine lv_goto (tgt := 43) hx hb dX4_keepsWishes_39 (by decide) ?_
        exact zr_Z hx hb hr hlocks hP hS (by decide) h dX4_keepsWishes_43
  unfold wp_X4_keepsWishes at h
  refine lv_aload_n hx hb dX4_keepsWishes_0 rfl (lv_at hl 0 rfl) ?_
  refine fg_4_2 hZ hx hb hts in4 hown hE hP hk0 lk25 dX4_keepsWishes_1 ?_
  refine lv_iconst (v := (-1)) hx hb dX4_keepsWishes_4 (by decide) ?_
  refine lv_icmp_eq (tgt := 19) hx hb dX4_keepsWishes_5 (by decide) (fun hc => ?_) (fun hc => ?_)
  · have h := h.1 hc
    exact B19 σ _ _ _ h hP hS (lv_sub hl [0, 1] rfl)
  · have h := h.2 hc
    refine lv_aload_n hx hb dX4_keepsWishes_8 rfl (lv_at hl 1 rfl) ?_
    refine fg_1_6 hZ hx hb hts in1 hown hE hP hk1 lk31 dX4_keepsWishes_9 ?_
    refine lv_aload_n hx hb dX4_keepsWishes_12 rfl (lv_at hl 0 rfl) ?_
    refine fg_4_2 hZ hx hb hts in4 hown hE hP hk0 lk25 dX4_keepsWishes_13 ?_
    refine lv_icmp_gt (tgt := 42) hx hb dX4_keepsWishes_16 (by decide) (fun hc => ?_) (fun hc => ?_)
    · have h := h.1 hc
      refine lv_iconst (v := 0) hx hb dX4_keepsWishes_42 (by decide) ?_
      exact zr_Z hx hb hr hlocks hP hS (by decide) h dX4_keepsWishes_43
    · have h := h.2 hc
      exact B19 σ _ _ _ h hP hS (lv_sub hl [0, 1] rfl)
theorem hd_X5_forgetWhatFollowed : yX5_forgetWhatFollowed.cls = RX5 ∧ yX5_forgetWhatFollowed.cls ≠ "java/lang/invoke/MethodHandle" ∧ yX5_forgetWhatFollowed.cls ≠ "java/lang/invoke/VarHandle" ∧ (parseMethodDescriptor yX5_forgetWhatFollowed.desc).map (fun d => d.parameters.length) = some 0 := by decide +kernel
set_option maxHeartbeats 4000000 in
set_option maxRecDepth 100000 in
theorem mt_X5_forgetWhatFollowed (l : Launch) {Z : ZW} (hZ : isC Z) (σ : SS) (sz : Nat) (K : SS → Prop) (h : wp_X5_forgetWhatFollowed σ K) : mtZ l yX5_forgetWhatFollowed wsX5_forgetWhatFollowed (rm9 0 0) Z [.ref (zq Z 0)] σ sz (qcV Z K sz) := by
  refine Met.ofW (cc := cX5_forgetWhatFollowed) (maxL := 1) (ret := none) (by decide) rfl ?_
  intro p e s m args below meth c s₁ B hml hv
  obtain ⟨hargs, hsz, hP, hE1, hE2, hE3⟩ := hv
  subst hsz
  have hE : envZ Z s := ⟨hE1, hE2, hE3⟩
  have hx := B.exec
  have hb := B.bytes
  have hr := B.returns
  have hlocks := B.notSynchronized
  have hts := atoms_spec (ws := wsX5_forgetWhatFollowed) B.pre
  have hown : s.vm.findClass RX5 = some m.cls := findClass_of_methodNamed B.named
  have hS : SZ Z s s.heap [] := va_S.rf
  obtain ⟨ls, hef, hl⟩ := z_entry m hargs (n := 1) (Nat.le_of_ble_eq_true rfl)
  rw [hef]
  have hl : lv_has ls 1 [(0, .ref (zq Z 0))] := hl
  have in5 : ∀ w ∈ u_ws RX5 TX5 15, w ∈ wsX5_forgetWhatFollowed := by decide +kernel
  have lk322 := hts (.fieldLink RX5 322 "BeatDoubts" "isFollowed" "Z") (by decide +kernel)
  have lk325 := hts (.fieldLink RX5 325 "BeatDoubts" "isWeighed" "Z") (by decide +kernel)
  unfold wp_X5_forgetWhatFollowed at h
  refine lv_aload_n hx hb dX5_forgetWhatFollowed_0 rfl (lv_at hl 0 rfl) ?_
  refine lv_iconst (v := 0) hx hb dX5_forgetWhatFollowed_1 (by decide) ?_
  refine fp_5_10 hZ hx hb hts in5 hown hE hP hS kd0 lk322 (by decide) dX5_forgetWhatFollowed_2 (fun H locs hP hS => ?_)
  refine lv_aload_n hx hb dX5_forgetWhatFollowed_5 rfl (lv_at hl 0 rfl) ?_
  refine lv_iconst (v := 0) hx hb dX5_forgetWhatFollowed_6 (by decide) ?_
  refine fp_5_12 hZ hx hb hts in5 hown hE hP hS kd0 lk325 (by decide) dX5_forgetWhatFollowed_7 (fun H locs hP hS => ?_)
  exact zr_V hx hb hr hlocks hP hS h dX5_forgetWhatFollowed_10
theorem hd_X5_addBeat : yX5_addBeat.cls = RX5 ∧ yX5_addBeat.cls ≠ "java/lang/invoke/MethodHandle" ∧ yX5_addBeat.cls ≠ "java/lang/invoke/VarHandle" ∧ (parseMethodDescriptor yX5_addBeat.desc).map (fun d => d.parameters.length) = some 1 := by decide +kernel
set_option maxHeartbeats 4000000 in
set_option maxRecDepth 100000 in
theorem mt_X5_addBeat (l : Launch) {Z : ZW} (hZ : isC Z) (σ : SS) (sz : Nat) (x1 : Int32) (K : SS → Prop) (h : wp_X5_addBeat σ x1 K) : mtZ l yX5_addBeat wsX5_addBeat (rm9 1 20) Z [.ref (zq Z 0), .int x1] σ sz (qcV Z K sz) := by
  refine Met.ofW (cc := cX5_addBeat) (maxL := 2) (ret := none) (by decide) rfl ?_
  intro p e s m args below meth c s₁ B hml hv
  obtain ⟨hargs, hsz, hP, hE1, hE2, hE3⟩ := hv
  subst hsz
  have hE : envZ Z s := ⟨hE1, hE2, hE3⟩
  have hx := B.exec
  have hb := B.bytes
  have hr := B.returns
  have hlocks := B.notSynchronized
  have hts := atoms_spec (ws := wsX5_addBeat) B.pre
  have hown : s.vm.findClass RX5 = some m.cls := findClass_of_methodNamed B.named
  have hS : SZ Z s s.heap [] := va_S.rf
  obtain ⟨ls, hef, hl⟩ := z_entry m hargs (n := 2) (Nat.le_of_ble_eq_true rfl)
  rw [hef]
  have hl : lv_has ls 2 [(0, .ref (zq Z 0)), (1, .int x1)] := hl
  have in5 : ∀ w ∈ u_ws RX5 TX5 15, w ∈ wsX5_addBeat := by decide +kernel
  have lk61 := hts (.fieldLink RX5 61 "BeatDoubts" "beatCount" "I") (by decide +kernel)
  have lk9 := hts (.fieldLink RX5 9 "BeatDoubts" "delays" "[I") (by decide +kernel)
  unfold wp_X5_addBeat at h
  refine lv_aload_n hx hb dX5_addBeat_0 rfl (lv_at hl 0 rfl) ?_
  refine fg_5_0 hZ hx hb hts in5 hown hE hP kd0 lk9 dX5_addBeat_1 ?_
  refine lv_aload_n hx hb dX5_addBeat_4 rfl (lv_at hl 0 rfl) ?_
  refine fg_5_1 hZ hx hb hts in5 hown hE hP kd0 lk61 dX5_addBeat_5 ?_
  refine lv_iload_n hx hb dX5_addBeat_8 rfl (lv_at hl 1 rfl) ?_
  obtain ⟨hin, h⟩ := h
  refine as_10 hZ hx hb hE hP hS kr_5_0 hin dX5_addBeat_9 (fun H locs hP hS => ?_)
  refine lv_aload_n hx hb dX5_addBeat_10 rfl (lv_at hl 0 rfl) ?_
  refine lv_dup hx hb dX5_addBeat_11 rfl ?_
  refine fg_5_1 hZ hx hb hts in5 hown hE hP kd0 lk61 dX5_addBeat_12 ?_
  refine lv_iconst (v := 1) hx hb dX5_addBeat_15 (by decide) ?_
  refine lv_iadd hx hb dX5_addBeat_16 ?_
  refine fp_5_1 hZ hx hb hts in5 hown hE hP hS kd0 lk61 dX5_addBeat_17 (fun H locs hP hS => ?_)
  refine lv_aload_n hx hb dX5_addBeat_20 rfl (lv_at hl 0 rfl) ?_
  refine zc_VV (As := []) (rest := []) ⟨hx, hb, hml, hown, hts⟩ (cwV 0 hts gX5_addBeat_X5_forgetWhatFollowed rfl rfl rfl hd_X5_forgetWhatFollowed ⟨Nat.le_of_ble_eq_true rfl, Nat.le_of_ble_eq_true rfl⟩) (mt_X5_forgetWhatFollowed l hZ (sI (sA σ 1 (gI σ 0 1).toNatClampNeg x1) 0 1 ((gI σ 0 1) + 1)) _  _ h) (rc_5 hZ hE hP kd0) hE hP hS rfl hl.1 rfl (Nat.le_of_ble_eq_true rfl) dX5_addBeat_21 ⟨Nat.zero_le _, Nat.zero_le _⟩ (fun σ21 H locs h hP hS => ?_)
  exact zr_V hx hb hr hlocks hP hS h dX5_addBeat_24
theorem hd_X5_isWithin : yX5_isWithin.cls ≠ "java/lang/invoke/MethodHandle" ∧ yX5_isWithin.cls ≠ "java/lang/invoke/VarHandle" ∧ (parseMethodDescriptor yX5_isWithin.desc).map (fun d => d.parameters.length) = some 3 := by decide +kernel
set_option maxHeartbeats 4000000 in
set_option maxRecDepth 100000 in
theorem mt_X5_isWithin (l : Launch) {Z : ZW} (hZ : isC Z) (σ : SS) (sz : Nat) (x0 : Int64) (x2 : Int32) (x3 : Int32) (K : SS → Int32 → Prop) (h : wp_X5_isWithin σ x0 x2 x3 K) : mtZ l yX5_isWithin wsX5_isWithin (rm9 0 0) Z [.long x0, .int x2, .int x3] σ sz (qcI Z K sz) := by
  refine Met.ofW (cc := cX5_isWithin) (maxL := 4) (ret := (some .boolean)) (by decide) rfl ?_
  intro p e s m args below meth c s₁ B hml hv
  obtain ⟨hargs, hsz, hP, hE1, hE2, hE3⟩ := hv
  subst hsz
  have hE : envZ Z s := ⟨hE1, hE2, hE3⟩
  have hx := B.exec
  have hb := B.bytes
  have hr := B.returns
  have hlocks := B.notSynchronized
  have hts := atoms_spec (ws := wsX5_isWithin) B.pre
  have hown : s.vm.findClass RX5 = some m.cls := findClass_of_methodNamed B.named
  have hS : SZ Z s s.heap [] := va_S.rf
  obtain ⟨ls, hef, hl⟩ := z_entry m hargs (n := 4) (Nat.le_of_ble_eq_true rfl)
  rw [hef]
  have hl : lv_has ls 4 [(0, .long x0), (2, .int x2), (3, .int x3)] := hl
  unfold wp_X5_isWithin at h
  refine lv_lload_n hx hb dX5_isWithin_0 rfl (lv_at hl 0 rfl) ?_
  refine lv_iload_n hx hb dX5_isWithin_1 rfl (lv_at hl 1 rfl) ?_
  refine lv_i2l hx hb dX5_isWithin_2 rfl ?_
  refine W.lcmp hx hb dX5_isWithin_3 ?_
  refine lv_if_lt (tgt := 18) hx hb dX5_isWithin_4 (by decide) (fun hc => ?_) (fun hc => ?_)
  · have h := h.1 hc
    refine lv_iconst (v := 0) hx hb dX5_isWithin_18 (by decide) ?_
    exact zr_Z hx hb hr hlocks hP hS (by decide) h dX5_isWithin_19
  · have h := h.2 hc
    refine lv_lload_n hx hb dX5_isWithin_7 rfl (lv_at hl 0 rfl) ?_
    refine lv_iload_n hx hb dX5_isWithin_8 rfl (lv_at hl 2 rfl) ?_
    refine lv_i2l hx hb dX5_isWithin_9 rfl ?_
    refine W.lcmp hx hb dX5_isWithin_10 ?_
    refine lv_if_gt (tgt := 18) hx hb dX5_isWithin_11 (by decide) (fun hc => ?_) (fun hc => ?_)
    · have h := h.1 hc
      refine lv_iconst (v := 0) hx hb dX5_isWithin_18 (by decide) ?_
      exact zr_Z hx hb hr hlocks hP hS (by decide) h dX5_isWithin_19
    · have h := h.2 hc
      refine lv_iconst (v := 1) hx hb dX5_isWithin_14 (by decide) ?_
      refine lv_goto (tgt := 19) hx hb dX5_isWithin_15 (by decide) ?_
      exact zr_Z hx hb hr hlocks hP hS (by decide) h dX5_isWithin_19
theorem hd_X5_isDelay : yX5_isDelay.cls ≠ "java/lang/invoke/MethodHandle" ∧ yX5_isDelay.cls ≠ "java/lang/invoke/VarHandle" ∧ (parseMethodDescriptor yX5_isDelay.desc).map (fun d => d.parameters.length) = some 1 := by decide +kernel
set_option maxHeartbeats 4000000 in
set_option maxRecDepth 100000 in
theorem mt_X5_isDelay (l : Launch) {Z : ZW} (hZ : isC Z) (σ : SS) (sz : Nat) (x0 : Int64) (K : SS → Int32 → Prop) (h : wp_X5_isDelay σ x0 K) : mtZ l yX5_isDelay wsX5_isDelay (rm9 1 23) Z [.long x0] σ sz (qcI Z K sz) := by
  refine Met.ofW (cc := cX5_isDelay) (maxL := 2) (ret := (some .boolean)) (by decide) rfl ?_
  intro p e s m args below meth c s₁ B hml hv
  obtain ⟨hargs, hsz, hP, hE1, hE2, hE3⟩ := hv
  subst hsz
  have hE : envZ Z s := ⟨hE1, hE2, hE3⟩
  have hx := B.exec
  have hb := B.bytes
  have hr := B.returns
  have hlocks := B.notSynchronized
  have hts := atoms_spec (ws := wsX5_isDelay) B.pre
  have hown : s.vm.findClass RX5 = some m.cls := findClass_of_methodNamed B.named
  have hS : SZ Z s s.heap [] := va_S.rf
  obtain ⟨ls, hef, hl⟩ := z_entry m hargs (n := 2) (Nat.le_of_ble_eq_true rfl)
  rw [hef]
  have hl : lv_has ls 2 [(0, .long x0)] := hl
  have lk318 := hts (.constantLong RX5 318 (-1)) (by decide +kernel)
  unfold wp_X5_isDelay at h
  refine lv_lload_n hx hb dX5_isDelay_0 rfl (lv_at hl 0 rfl) ?_
  refine lv_ldc2 (v := (-1)) hx hb hown lk318 dX5_isDelay_1 ?_
  refine W.lcmp hx hb dX5_isDelay_4 ?_
  refine lv_if_eq (tgt := 18) hx hb dX5_isDelay_5 (by decide) (fun hc => ?_) (fun hc => ?_)
  · have h := h.1 hc
    refine lv_iconst (v := 1) hx hb dX5_isDelay_18 (by decide) ?_
    refine lv_goto (tgt := 23) hx hb dX5_isDelay_19 (by decide) ?_
    exact zr_Z hx hb hr hlocks hP hS (by decide) h dX5_isDelay_23
  · have h := h.2 hc
    refine lv_lload_n hx hb dX5_isDelay_8 rfl (lv_at hl 0 rfl) ?_
    refine lv_iconst (v := 0) hx hb dX5_isDelay_9 (by decide) ?_
    refine lv_bipush (v := 99) hx hb dX5_isDelay_10 (by decide) ?_
    refine zc_SI (As := [.long x0, .int 0, .int 99]) (rest := []) ⟨hx, hb, hml, hown, hts⟩ (va_cwS 3 hts gX5_isDelay_X5_isWithin rfl rfl rfl hd_X5_isWithin ⟨Nat.le_of_ble_eq_true rfl, Nat.le_of_ble_eq_true rfl⟩) (mt_X5_isWithin l hZ σ _ x0 0 99 _ h) hE hP hS rfl hl.1 rfl (Nat.le_of_ble_eq_true rfl) dX5_isDelay_12 ⟨Nat.zero_le _, Nat.zero_le _⟩ (fun r12 σ12 H locs h hP hS => ?_)
    refine lv_if_eq (tgt := 22) hx hb dX5_isDelay_15 (by decide) (fun hc => ?_) (fun hc => ?_)
    · have h := h.1 hc
      refine lv_iconst (v := 0) hx hb dX5_isDelay_22 (by decide) ?_
      exact zr_Z hx hb hr hlocks hP hS (by decide) h dX5_isDelay_23
    · have h := h.2 hc
      refine lv_iconst (v := 1) hx hb dX5_isDelay_18 (by decide) ?_
      refine lv_goto (tgt := 23) hx hb dX5_isDelay_19 (by decide) ?_
      exact zr_Z hx hb hr hlocks hP hS (by decide) h dX5_isDelay_23
theorem hd_X5_beat : yX5_beat.cls = RX5 ∧ yX5_beat.cls ≠ "java/lang/invoke/MethodHandle" ∧ yX5_beat.cls ≠ "java/lang/invoke/VarHandle" ∧ (parseMethodDescriptor yX5_beat.desc).map (fun d => d.parameters.length) = some 1 := by decide +kernel
set_option maxHeartbeats 4000000 in
set_option maxRecDepth 100000 in
theorem mt_X5_beat (l : Launch) {Z : ZW} (hZ : isC Z) (σ : SS) (sz : Nat) (x1 : Int32) (K : SS → Int32 → Prop) (h : wp_X5_beat σ x1 K) : mtZ l yX5_beat wsX5_beat (rm9 2 44) Z [.ref (zq Z 0), .int x1] σ sz (qcI Z K sz) := by
  refine Met.ofW (cc := cX5_beat) (maxL := 2) (ret := (some .int)) (by decide) rfl ?_
  intro p e s m args below meth c s₁ B hml hv
  obtain ⟨hargs, hsz, hP, hE1, hE2, hE3⟩ := hv
  subst hsz
  have hE : envZ Z s := ⟨hE1, hE2, hE3⟩
  have hx := B.exec
  have hb := B.bytes
  have hr := B.returns
  have hlocks := B.notSynchronized
  have hts := atoms_spec (ws := wsX5_beat) B.pre
  have hown : s.vm.findClass RX5 = some m.cls := findClass_of_methodNamed B.named
  have hS : SZ Z s s.heap [] := va_S.rf
  obtain ⟨ls, hef, hl⟩ := z_entry m hargs (n := 2) (Nat.le_of_ble_eq_true rfl)
  rw [hef]
  have hl : lv_has ls 2 [(0, .ref (zq Z 0)), (1, .int x1)] := hl
  have in5 : ∀ w ∈ u_ws RX5 TX5 15, w ∈ wsX5_beat := by decide +kernel
  have lk61 := hts (.fieldLink RX5 61 "BeatDoubts" "beatCount" "I") (by decide +kernel)
  unfold wp_X5_beat at h
  refine lv_iload_n hx hb dX5_beat_0 rfl (lv_at hl 1 rfl) ?_
  refine lv_i2l hx hb dX5_beat_1 rfl ?_
  refine zc_SI (As := [.long x1.toInt64]) (rest := []) ⟨hx, hb, hml, hown, hts⟩ (va_cwS 1 hts gX5_beat_X5_isDelay rfl rfl rfl hd_X5_isDelay ⟨Nat.le_of_ble_eq_true rfl, Nat.le_of_ble_eq_true rfl⟩) (mt_X5_isDelay l hZ σ _ x1.toInt64 _ h) hE hP hS rfl hl.1 rfl (Nat.le_of_ble_eq_true rfl) dX5_beat_2 ⟨Nat.zero_le _, Nat.zero_le _⟩ (fun r2 σ2 H locs h hP hS => ?_)
  refine lv_if_ne (tgt := 11) hx hb dX5_beat_5 (by decide) (fun hc => ?_) (fun hc => ?_)
  · have h := h.1 hc
    refine lv_aload_n hx hb dX5_beat_11 rfl (lv_at hl 0 rfl) ?_
    refine fg_5_1 hZ hx hb hts in5 hown hE hP kd0 lk61 dX5_beat_12 ?_
    refine lv_bipush (v := 40) hx hb dX5_beat_15 (by decide) ?_
    refine lv_icmp_lt (tgt := 23) hx hb dX5_beat_17 (by decide) (fun hc => ?_) (fun hc => ?_)
    · have h := h.1 hc
      refine lv_aload_n hx hb dX5_beat_23 rfl (lv_at hl 0 rfl) ?_
      refine lv_iload_n hx hb dX5_beat_24 rfl (lv_at hl 1 rfl) ?_
      refine zc_VV (As := [.int x1]) (rest := []) ⟨hx, hb, hml, hown, hts⟩ (cwV 1 hts gX5_beat_X5_addBeat rfl rfl rfl hd_X5_addBeat ⟨Nat.le_of_ble_eq_true rfl, Nat.le_of_ble_eq_true rfl⟩) (mt_X5_addBeat l hZ σ2 _ x1 _ h) (rc_5 hZ hE hP kd0) hE hP hS rfl hl.1 rfl (Nat.le_of_ble_eq_true rfl) dX5_beat_25 ⟨Nat.zero_le _, Nat.zero_le _⟩ (fun σ25 H locs h hP hS => ?_)
      refine lv_aload_n hx hb dX5_beat_28 rfl (lv_at hl 0 rfl) ?_
      refine fg_5_1 hZ hx hb hts in5 hown hE hP kd0 lk61 dX5_beat_29 ?_
      exact zr_I hx hb hr hlocks hP hS h dX5_beat_32
    · have h := h.2 hc
      refine lv_bipush (v := (-4)) hx hb dX5_beat_20 (by decide) ?_
      exact zr_I hx hb hr hlocks hP hS h dX5_beat_22
  · have h := h.2 hc
    refine lv_bipush (v := (-2)) hx hb dX5_beat_8 (by decide) ?_
    exact zr_I hx hb hr hlocks hP hS h dX5_beat_10
theorem hd_J9_floorMod_7cf53 : yJ9_floorMod_7cf53.cls ≠ "java/lang/invoke/MethodHandle" ∧ yJ9_floorMod_7cf53.cls ≠ "java/lang/invoke/VarHandle" ∧ (parseMethodDescriptor yJ9_floorMod_7cf53.desc).map (fun d => d.parameters.length) = some 2 := by decide +kernel
set_option maxHeartbeats 4000000 in
set_option maxRecDepth 100000 in
theorem mt_J9_floorMod_7cf53 (l : Launch) {Z : ZW} (σ : SS) (sz : Nat) (x0 : Int32) (x1 : Int32) (K : SS → Int32 → Prop) (h : wp_J9_floorMod_7cf53 σ x0 x1 K) : mtZ l yJ9_floorMod_7cf53 wsJ9_floorMod_7cf53 (rm9 0 0) Z [.int x0, .int x1] σ sz (qcI Z K sz) := by
  refine ofWF (cc := cJ9_floorMod_7cf53) (maxL := 3) (ret := (some .int)) (by decide +kernel) rfl ?_
  intro p e s m args below meth c s₁ B hml hv
  obtain ⟨hargs, hsz, hP, hE1, hE2, hE3⟩ := hv
  subst hsz
  have hE : envZ Z s := ⟨hE1, hE2, hE3⟩
  have hx := B.exec
  have hb := B.bytes
  have hr := B.returns
  have hlocks := B.notSynchronized
  have hts := atoms_spec (ws := wsJ9_floorMod_7cf53) B.pre
  have hown : s.vm.findClass RJ9 = some m.cls := findClass_of_methodNamed B.named
  have hS : SZ Z s s.heap [] := va_S.rf
  obtain ⟨ls, hef, hl⟩ := z_entry m hargs (n := 3) (Nat.le_of_ble_eq_true rfl)
  rw [hef]
  have hl : lv_has ls 3 [(0, .int x0), (1, .int x1)] := hl
  unfold wp_J9_floorMod_7cf53 at h
  refine lv_iload_n hx hb dJ9_floorMod_7cf53_0 rfl (lv_at hl 0 rfl) ?_
  refine lv_iload_n hx hb dJ9_floorMod_7cf53_1 rfl (lv_at hl 1 rfl) ?_
  obtain ⟨hne, h⟩ := h
  refine lv_irem hx hb dJ9_floorMod_7cf53_2 hne ?_
  refine lv_istore_n (lv' := [(2, .int (x0 - x0 / x1 * x1)), (0, .int x0), (1, .int x1)]) hx hb dJ9_floorMod_7cf53_3 rfl hl (by decide) rfl (fun ls hl => ?_)
  refine lv_iload_n hx hb dJ9_floorMod_7cf53_4 rfl (lv_at hl 1 rfl) ?_
  refine lv_iload_n hx hb dJ9_floorMod_7cf53_5 rfl (lv_at hl 2 rfl) ?_
  refine lv_ixor hx hb dJ9_floorMod_7cf53_6 ?_
  refine lv_if_ge (tgt := 18) hx hb dJ9_floorMod_7cf53_7 (by decide) (fun hc => ?_) (fun hc => ?_)
  · have h := h.1 hc
    refine lv_iload_n hx hb dJ9_floorMod_7cf53_18 rfl (lv_at hl 0 rfl) ?_
    exact zr_I hx hb hr hlocks hP hS h dJ9_floorMod_7cf53_19
  · have h := h.2 hc
    refine lv_iload_n hx hb dJ9_floorMod_7cf53_10 rfl (lv_at hl 0 rfl) ?_
    refine lv_if_eq (tgt := 18) hx hb dJ9_floorMod_7cf53_11 (by decide) (fun hc => ?_) (fun hc => ?_)
    · have h := h.1 hc
      refine lv_iload_n hx hb dJ9_floorMod_7cf53_18 rfl (lv_at hl 0 rfl) ?_
      exact zr_I hx hb hr hlocks hP hS h dJ9_floorMod_7cf53_19
    · have h := h.2 hc
      refine lv_iload_n hx hb dJ9_floorMod_7cf53_14 rfl (lv_at hl 0 rfl) ?_
      refine lv_iload_n hx hb dJ9_floorMod_7cf53_15 rfl (lv_at hl 2 rfl) ?_
      refine lv_iadd hx hb dJ9_floorMod_7cf53_16 ?_
      exact zr_I hx hb hr hlocks hP hS h dJ9_floorMod_7cf53_17
theorem hd_X5_beats : yX5_beats.cls = RX5 ∧ yX5_beats.cls ≠ "java/lang/invoke/MethodHandle" ∧ yX5_beats.cls ≠ "java/lang/invoke/VarHandle" ∧ (parseMethodDescriptor yX5_beats.desc).map (fun d => d.parameters.length) = some 3 := by decide +kernel
set_option maxHeartbeats 4000000 in
set_option maxRecDepth 100000 in
theorem mt_X5_beats (l : Launch) {Z : ZW} (hZ : isC Z) (σ : SS) (sz : Nat) (x1 : Int32) (x2 : Int32) (x3 : Int32) (K : SS → Int32 → Prop) (h : wp_X5_beats σ x1 x2 x3 K) : mtZ l yX5_beats wsX5_beats (rm9 2 41) Z [.ref (zq Z 0), .int x1, .int x2, .int x3] σ sz (qcI Z K sz) := by
  refine Met.ofW (cc := cX5_beats) (maxL := 7) (ret := (some .int)) (by decide) rfl ?_
  intro p e s m args below meth c s₁ B hml hv
  obtain ⟨hargs, hsz, hP, hE1, hE2, hE3⟩ := hv
  subst hsz
  have hE : envZ Z s := ⟨hE1, hE2, hE3⟩
  have hx := B.exec
  have hb := B.bytes
  have hr := B.returns
  have hlocks := B.notSynchronized
  have hts := atoms_spec (ws := wsX5_beats) B.pre
  have hown : s.vm.findClass RX5 = some m.cls := findClass_of_methodNamed B.named
  have hS : SZ Z s s.heap [] := va_S.rf
  obtain ⟨ls, hef, hl⟩ := z_entry m hargs (n := 7) (Nat.le_of_ble_eq_true rfl)
  rw [hef]
  have hl : lv_has ls 7 [(0, .ref (zq Z 0)), (1, .int x1), (2, .int x2), (3, .int x3)] := hl
  have in5 : ∀ w ∈ u_ws RX5 TX5 15, w ∈ wsX5_beats := by decide +kernel
  have cdmin := hts (.code Lib.Math.min.name Lib.Math.min.code 2 (some .int)) (by decide +kernel)
  have inM := hts (.initialized "java/lang/Math") (by decide +kernel)
  have lk61 := hts (.fieldLink RX5 61 "BeatDoubts" "beatCount" "I") (by decide +kernel)
  have lk72 := hts (.methodLink RX5 72 Lib.Math.min.name) (by decide +kernel)
  have stmin := hts (.static Lib.Math.min.name) (by decide +kernel)
  have B56 : ∀ (n : Nat) (σ : SS) (x2 : Int32) (x4 : Int32) (x5 : Int32) (x6 : Int32) (H : Heap) (locs : List Loc) (ls : Array Slot), fx5 (lb_X5_beats_56 K) n σ x2 x4 x5 x6 → PZ Z σ H → SZ Z s H locs → lv_has ls 7 [(0, .ref (zq Z 0)), (2, .int x2), (4, .int x4), (5, .int x5), (6, .int x6)] → W p l e (headSpec wsX5_beats (rm9 2 41)).room s m args below meth c H locs 0 0 (MQ below (qcI Z K s.heap.size) args s 0 0 (aZ Z s.heap.size)) (F0 m 56 ls []) := by
    intro n56
    induction n56 with
    | zero => intro σ x2 x4 x5 x6 H locs ls h; exact h.elim
    | succ n56 ih56 =>
      intro σ x2 x4 x5 x6 H locs ls h hP hS hl
      have h : lb_X5_beats_56 K (fx5 (lb_X5_beats_56 K) n56) σ x2 x4 x5 x6 := h
      unfold lb_X5_beats_56 at h
      refine lv_iload hx hb dX5_beats_56 (lv_at hl 4 rfl) ?_
      refine lv_iload hx hb dX5_beats_58 (lv_at hl 2 rfl) ?_
      refine lv_icmp_ge (tgt := 86) hx hb dX5_beats_60 (by decide) (fun hc => ?_) (fun hc => ?_)
      · have h := h.1 hc
        refine lv_iload hx hb dX5_beats_86 (lv_at hl 2 rfl) ?_
        exact zr_I hx hb hr hlocks hP hS h dX5_beats_88
      · have h := h.2 hc
        refine lv_aload_n hx hb dX5_beats_63 rfl (lv_at hl 0 rfl) ?_
        refine lv_iload hx hb dX5_beats_64 (lv_at hl 3 rfl) ?_
        refine zc_VV (As := [.int x5]) (rest := []) ⟨hx, hb, hml, hown, hts⟩ (cwV 1 hts gX5_beats_X5_addBeat rfl rfl rfl hd_X5_addBeat ⟨Nat.le_of_ble_eq_true rfl, Nat.le_of_ble_eq_true rfl⟩) (mt_X5_addBeat l hZ σ _ x5 _ h) (rc_5 hZ hE hP kd0) hE hP hS rfl hl.1 rfl (Nat.le_of_ble_eq_true rfl) dX5_beats_66 ⟨Nat.zero_le _, Nat.zero_le _⟩ (fun σ66 H locs h hP hS => ?_)
        refine lv_iload hx hb dX5_beats_69 (lv_at hl 3 rfl) ?_
        refine lv_iload_n hx hb dX5_beats_71 rfl (lv_at hl 1 rfl) ?_
        refine lv_iadd hx hb dX5_beats_72 ?_
        refine lv_bipush (v := 100) hx hb dX5_beats_73 (by decide) ?_
        refine zc_SI (As := [.int (x5 + x2), .int 100]) (rest := []) ⟨hx, hb, hml, hown, hts⟩ (va_cwS 2 hts gX5_beats_J9_floorMod_7cf53 rfl rfl rfl hd_J9_floorMod_7cf53 ⟨Nat.le_of_ble_eq_true rfl, Nat.le_of_ble_eq_true rfl⟩) (mt_J9_floorMod_7cf53 l  σ66 _ (x5 + x2) 100 _ h) hE hP hS rfl hl.1 rfl (Nat.le_of_ble_eq_true rfl) dX5_beats_75 ⟨Nat.zero_le _, Nat.zero_le _⟩ (fun r75 σ75 H locs h hP hS => ?_)
        refine lv_istore (lv' := [(5, .int r75), (0, .ref (zq Z 0)), (2, .int x2), (4, .int x4), (6, .int x6)]) hx hb dX5_beats_78 hl (by decide) rfl (fun ls hl => ?_)
        refine lv_iinc (v := (x6 + 1)) (lv' := [(6, .int (x6 + 1)), (5, .int r75), (0, .ref (zq Z 0)), (2, .int x2), (4, .int x4)]) hx hb dX5_beats_80 hl (k := 4) rfl rfl (by decide) rfl (fun ls hl => ?_)
        refine lv_goto (tgt := 56) hx hb dX5_beats_83 (by decide) ?_
        exact ih56 σ75 x2 x4 r75 (x6 + 1) _ _ _ h hP hS (lv_sub hl [2, 3, 4, 1, 0] rfl)
  unfold wp_X5_beats at h
  refine lv_iload_n hx hb dX5_beats_0 rfl (lv_at hl 1 rfl) ?_
  refine lv_i2l hx hb dX5_beats_1 rfl ?_
  refine lv_iconst (v := 0) hx hb dX5_beats_2 (by decide) ?_
  refine lv_bipush (v := 99) hx hb dX5_beats_3 (by decide) ?_
  refine zc_SI (As := [.long x1.toInt64, .int 0, .int 99]) (rest := []) ⟨hx, hb, hml, hown, hts⟩ (va_cwS 3 hts gX5_beats_X5_isWithin rfl rfl rfl hd_X5_isWithin ⟨Nat.le_of_ble_eq_true rfl, Nat.le_of_ble_eq_true rfl⟩) (mt_X5_isWithin l hZ σ _ x1.toInt64 0 99 _ h) hE hP hS rfl hl.1 rfl (Nat.le_of_ble_eq_true rfl) dX5_beats_5 ⟨Nat.zero_le _, Nat.zero_le _⟩ (fun r5 σ5 H locs h hP hS => ?_)
  refine lv_if_eq (tgt := 34) hx hb dX5_beats_8 (by decide) (fun hc => ?_) (fun hc => ?_)
  · have h := h.1 hc
    refine lv_bipush (v := (-2)) hx hb dX5_beats_34 (by decide) ?_
    exact zr_I hx hb hr hlocks hP hS h dX5_beats_36
  · have h := h.2 hc
    refine lv_iload_n hx hb dX5_beats_11 rfl (lv_at hl 2 rfl) ?_
    refine lv_i2l hx hb dX5_beats_12 rfl ?_
    refine lv_bipush (v := (-99)) hx hb dX5_beats_13 (by decide) ?_
    refine lv_bipush (v := 99) hx hb dX5_beats_15 (by decide) ?_
    refine zc_SI (As := [.long x2.toInt64, .int (-99), .int 99]) (rest := []) ⟨hx, hb, hml, hown, hts⟩ (va_cwS 3 hts gX5_beats_X5_isWithin rfl rfl rfl hd_X5_isWithin ⟨Nat.le_of_ble_eq_true rfl, Nat.le_of_ble_eq_true rfl⟩) (mt_X5_isWithin l hZ σ5 _ x2.toInt64 (-99) 99 _ h) hE hP hS rfl hl.1 rfl (Nat.le_of_ble_eq_true rfl) dX5_beats_17 ⟨Nat.zero_le _, Nat.zero_le _⟩ (fun r17 σ17 H locs h hP hS => ?_)
    refine lv_if_eq (tgt := 34) hx hb dX5_beats_20 (by decide) (fun hc => ?_) (fun hc => ?_)
    · have h := h.1 hc
      refine lv_bipush (v := (-2)) hx hb dX5_beats_34 (by decide) ?_
      exact zr_I hx hb hr hlocks hP hS h dX5_beats_36
    · have h := h.2 hc
      refine lv_iload_n hx hb dX5_beats_23 rfl (lv_at hl 3 rfl) ?_
      refine lv_i2l hx hb dX5_beats_24 rfl ?_
      refine lv_iconst (v := 1) hx hb dX5_beats_25 (by decide) ?_
      refine lv_bipush (v := 40) hx hb dX5_beats_26 (by decide) ?_
      refine zc_SI (As := [.long x3.toInt64, .int 1, .int 40]) (rest := []) ⟨hx, hb, hml, hown, hts⟩ (va_cwS 3 hts gX5_beats_X5_isWithin rfl rfl rfl hd_X5_isWithin ⟨Nat.le_of_ble_eq_true rfl, Nat.le_of_ble_eq_true rfl⟩) (mt_X5_isWithin l hZ σ17 _ x3.toInt64 1 40 _ h) hE hP hS rfl hl.1 rfl (Nat.le_of_ble_eq_true rfl) dX5_beats_28 ⟨Nat.zero_le _, Nat.zero_le _⟩ (fun r28 σ28 H locs h hP hS => ?_)
      refine lv_if_ne (tgt := 37) hx hb dX5_beats_31 (by decide) (fun hc => ?_) (fun hc => ?_)
      · have h := h.1 hc
        refine lv_iload_n hx hb dX5_beats_37 rfl (lv_at hl 3 rfl) ?_
        refine lv_bipush (v := 40) hx hb dX5_beats_38 (by decide) ?_
        refine lv_aload_n hx hb dX5_beats_40 rfl (lv_at hl 0 rfl) ?_
        refine fg_5_1 hZ hx hb hts in5 hown hE hP kd0 lk61 dX5_beats_41 ?_
        refine lv_isub hx hb dX5_beats_44 ?_
        refine va_mmin hx hb (hml.trans hl.1.symm) hown lk72 stmin inM cdmin (Nat.le_of_ble_eq_true rfl) (Nat.le_of_ble_eq_true rfl) (Nat.zero_le _) (Nat.zero_le _) dX5_beats_45 ?_
        refine lv_istore (lv' := [(4, .int (if (40 - (gI σ28 0 1)) < x3 then (40 - (gI σ28 0 1)) else x3)), (0, .ref (zq Z 0)), (1, .int x1), (2, .int x2), (3, .int x3)]) hx hb dX5_beats_48 hl (by decide) rfl (fun ls hl => ?_)
        refine lv_iload_n hx hb dX5_beats_50 rfl (lv_at hl 2 rfl) ?_
        refine lv_istore (lv' := [(5, .int x1), (4, .int (if (40 - (gI σ28 0 1)) < x3 then (40 - (gI σ28 0 1)) else x3)), (0, .ref (zq Z 0)), (1, .int x1), (2, .int x2), (3, .int x3)]) hx hb dX5_beats_51 hl (by decide) rfl (fun ls hl => ?_)
        refine lv_iconst (v := 0) hx hb dX5_beats_53 (by decide) ?_
        refine lv_istore (lv' := [(6, .int 0), (5, .int x1), (4, .int (if (40 - (gI σ28 0 1)) < x3 then (40 - (gI σ28 0 1)) else x3)), (0, .ref (zq Z 0)), (1, .int x1), (2, .int x2), (3, .int x3)]) hx hb dX5_beats_54 hl (by decide) rfl (fun ls hl => ?_)
        obtain ⟨n, h⟩ := h
        exact B56 n σ28 x2 (if (40 - (gI σ28 0 1)) < x3 then (40 - (gI σ28 0 1)) else x3) x1 0 _ _ _ h hP hS (lv_sub hl [3, 5, 2, 1, 0] rfl)
      · have h := h.2 hc
        refine lv_bipush (v := (-2)) hx hb dX5_beats_34 (by decide) ?_
        exact zr_I hx hb hr hlocks hP hS h dX5_beats_36
theorem hd_X5_delay : yX5_delay.cls = RX5 ∧ yX5_delay.cls ≠ "java/lang/invoke/MethodHandle" ∧ yX5_delay.cls ≠ "java/lang/invoke/VarHandle" ∧ (parseMethodDescriptor yX5_delay.desc).map (fun d => d.parameters.length) = some 2 := by decide +kernel
set_option maxHeartbeats 4000000 in
set_option maxRecDepth 100000 in
theorem mt_X5_delay (l : Launch) {Z : ZW} (hZ : isC Z) (σ : SS) (sz : Nat) (x1 : Int32) (x2 : Int32) (K : SS → Int32 → Prop) (h : wp_X5_delay σ x1 x2 K) : mtZ l yX5_delay wsX5_delay (rm9 2 44) Z [.ref (zq Z 0), .int x1, .int x2] σ sz (qcI Z K sz) := by
  refine Met.ofW (cc := cX5_delay) (maxL := 4) (ret := (some .int)) (by decide) rfl ?_
  intro p e s m args below meth c s₁ B hml hv
  obtain ⟨hargs, hsz, hP, hE1, hE2, hE3⟩ := hv
  subst hsz
  have hE : envZ Z s := ⟨hE1, hE2, hE3⟩
  have hx := B.exec
  have hb := B.bytes
  have hr := B.returns
  have hlocks := B.notSynchronized
  have hts := atoms_spec (ws := wsX5_delay) B.pre
  have hown : s.vm.findClass RX5 = some m.cls := findClass_of_methodNamed B.named
  have hS : SZ Z s s.heap [] := va_S.rf
  obtain ⟨ls, hef, hl⟩ := z_entry m hargs (n := 4) (Nat.le_of_ble_eq_true rfl)
  rw [hef]
  have hl : lv_has ls 4 [(0, .ref (zq Z 0)), (1, .int x1), (2, .int x2)] := hl
  have in5 : ∀ w ∈ u_ws RX5 TX5 15, w ∈ wsX5_delay := by decide +kernel
  have lk61 := hts (.fieldLink RX5 61 "BeatDoubts" "beatCount" "I") (by decide +kernel)
  have lk9 := hts (.fieldLink RX5 9 "BeatDoubts" "delays" "[I") (by decide +kernel)
  unfold wp_X5_delay at h
  refine lv_iload_n hx hb dX5_delay_0 rfl (lv_at hl 1 rfl) ?_
  refine lv_i2l hx hb dX5_delay_1 rfl ?_
  refine lv_iconst (v := 0) hx hb dX5_delay_2 (by decide) ?_
  refine lv_aload_n hx hb dX5_delay_3 rfl (lv_at hl 0 rfl) ?_
  refine fg_5_1 hZ hx hb hts in5 hown hE hP kd0 lk61 dX5_delay_4 ?_
  refine lv_iconst (v := 1) hx hb dX5_delay_7 (by decide) ?_
  refine lv_isub hx hb dX5_delay_8 ?_
  refine zc_SI (As := [.long x1.toInt64, .int 0, .int ((gI σ 0 1) - 1)]) (rest := []) ⟨hx, hb, hml, hown, hts⟩ (va_cwS 3 hts gX5_delay_X5_isWithin rfl rfl rfl hd_X5_isWithin ⟨Nat.le_of_ble_eq_true rfl, Nat.le_of_ble_eq_true rfl⟩) (mt_X5_isWithin l hZ σ _ x1.toInt64 0 ((gI σ 0 1) - 1) _ h) hE hP hS rfl hl.1 rfl (Nat.le_of_ble_eq_true rfl) dX5_delay_9 ⟨Nat.zero_le _, Nat.zero_le _⟩ (fun r9 σ9 H locs h hP hS => ?_)
  refine lv_if_eq (tgt := 23) hx hb dX5_delay_12 (by decide) (fun hc => ?_) (fun hc => ?_)
  · have h := h.1 hc
    refine lv_bipush (v := (-2)) hx hb dX5_delay_23 (by decide) ?_
    exact zr_I hx hb hr hlocks hP hS h dX5_delay_25
  · have h := h.2 hc
    refine lv_iload_n hx hb dX5_delay_15 rfl (lv_at hl 2 rfl) ?_
    refine lv_i2l hx hb dX5_delay_16 rfl ?_
    refine zc_SI (As := [.long x2.toInt64]) (rest := []) ⟨hx, hb, hml, hown, hts⟩ (va_cwS 1 hts gX5_delay_X5_isDelay rfl rfl rfl hd_X5_isDelay ⟨Nat.le_of_ble_eq_true rfl, Nat.le_of_ble_eq_true rfl⟩) (mt_X5_isDelay l hZ σ9 _ x2.toInt64 _ h) hE hP hS rfl hl.1 rfl (Nat.le_of_ble_eq_true rfl) dX5_delay_17 ⟨Nat.zero_le _, Nat.zero_le _⟩ (fun r17 σ17 H locs h hP hS => ?_)
    refine lv_if_ne (tgt := 26) hx hb dX5_delay_20 (by decide) (fun hc => ?_) (fun hc => ?_)
    · have h := h.1 hc
      refine lv_aload_n hx hb dX5_delay_26 rfl (lv_at hl 0 rfl) ?_
      refine fg_5_0 hZ hx hb hts in5 hown hE hP kd0 lk9 dX5_delay_27 ?_
      refine lv_iload_n hx hb dX5_delay_30 rfl (lv_at hl 1 rfl) ?_
      obtain ⟨hin, h⟩ := h
      refine al_10 hZ hx hb hE hP kr_5_0 hin dX5_delay_31 ?_
      refine lv_istore_n (lv' := [(3, .int (gA σ17 1 x1.toNatClampNeg)), (0, .ref (zq Z 0)), (1, .int x1), (2, .int x2)]) hx hb dX5_delay_32 rfl hl (by decide) rfl (fun ls hl => ?_)
      refine lv_aload_n hx hb dX5_delay_33 rfl (lv_at hl 1 rfl) ?_
      refine fg_5_0 hZ hx hb hts in5 hown hE hP kd0 lk9 dX5_delay_34 ?_
      refine lv_iload_n hx hb dX5_delay_37 rfl (lv_at hl 2 rfl) ?_
      refine lv_iload_n hx hb dX5_delay_38 rfl (lv_at hl 3 rfl) ?_
      obtain ⟨hin, h⟩ := h
      refine as_10 hZ hx hb hE hP hS kr_5_0 hin dX5_delay_39 (fun H locs hP hS => ?_)
      refine lv_aload_n hx hb dX5_delay_40 rfl (lv_at hl 1 rfl) ?_
      refine zc_VV (As := []) (rest := []) ⟨hx, hb, hml, hown, hts⟩ (cwV 0 hts gX5_delay_X5_forgetWhatFollowed rfl rfl rfl hd_X5_forgetWhatFollowed ⟨Nat.le_of_ble_eq_true rfl, Nat.le_of_ble_eq_true rfl⟩) (mt_X5_forgetWhatFollowed l hZ (sA σ17 1 x1.toNatClampNeg x2) _  _ h) (rc_5 hZ hE hP kd0) hE hP hS rfl hl.1 rfl (Nat.le_of_ble_eq_true rfl) dX5_delay_41 ⟨Nat.zero_le _, Nat.zero_le _⟩ (fun σ41 H locs h hP hS => ?_)
      refine lv_iload_n hx hb dX5_delay_44 rfl (lv_at hl 0 rfl) ?_
      exact zr_I hx hb hr hlocks hP hS h dX5_delay_45
    · have h := h.2 hc
      refine lv_bipush (v := (-2)) hx hb dX5_delay_23 (by decide) ?_
      exact zr_I hx hb hr hlocks hP hS h dX5_delay_25
theorem hd_X5_back : yX5_back.cls = RX5 ∧ yX5_back.cls ≠ "java/lang/invoke/MethodHandle" ∧ yX5_back.cls ≠ "java/lang/invoke/VarHandle" ∧ (parseMethodDescriptor yX5_back.desc).map (fun d => d.parameters.length) = some 0 := by decide +kernel
set_option maxHeartbeats 4000000 in
set_option maxRecDepth 100000 in
theorem mt_X5_back (l : Launch) {Z : ZW} (hZ : isC Z) (σ : SS) (sz : Nat) (K : SS → Int32 → Prop) (h : wp_X5_back σ K) : mtZ l yX5_back wsX5_back (rm9 1 20) Z [.ref (zq Z 0)] σ sz (qcI Z K sz) := by
  refine Met.ofW (cc := cX5_back) (maxL := 1) (ret := (some .int)) (by decide) rfl ?_
  intro p e s m args below meth c s₁ B hml hv
  obtain ⟨hargs, hsz, hP, hE1, hE2, hE3⟩ := hv
  subst hsz
  have hE : envZ Z s := ⟨hE1, hE2, hE3⟩
  have hx := B.exec
  have hb := B.bytes
  have hr := B.returns
  have hlocks := B.notSynchronized
  have hts := atoms_spec (ws := wsX5_back) B.pre
  have hown : s.vm.findClass RX5 = some m.cls := findClass_of_methodNamed B.named
  have hS : SZ Z s s.heap [] := va_S.rf
  obtain ⟨ls, hef, hl⟩ := z_entry m hargs (n := 1) (Nat.le_of_ble_eq_true rfl)
  rw [hef]
  have hl : lv_has ls 1 [(0, .ref (zq Z 0))] := hl
  have in5 : ∀ w ∈ u_ws RX5 TX5 15, w ∈ wsX5_back := by decide +kernel
  have lk61 := hts (.fieldLink RX5 61 "BeatDoubts" "beatCount" "I") (by decide +kernel)
  unfold wp_X5_back at h
  refine lv_aload_n hx hb dX5_back_0 rfl (lv_at hl 0 rfl) ?_
  refine fg_5_1 hZ hx hb hts in5 hown hE hP kd0 lk61 dX5_back_1 ?_
  refine lv_if_ne (tgt := 10) hx hb dX5_back_4 (by decide) (fun hc => ?_) (fun hc => ?_)
  · have h := h.1 hc
    refine lv_aload_n hx hb dX5_back_10 rfl (lv_at hl 0 rfl) ?_
    refine lv_dup hx hb dX5_back_11 rfl ?_
    refine fg_5_1 hZ hx hb hts in5 hown hE hP kd0 lk61 dX5_back_12 ?_
    refine lv_iconst (v := 1) hx hb dX5_back_15 (by decide) ?_
    refine lv_isub hx hb dX5_back_16 ?_
    refine fp_5_1 hZ hx hb hts in5 hown hE hP hS kd0 lk61 dX5_back_17 (fun H locs hP hS => ?_)
    refine lv_aload_n hx hb dX5_back_20 rfl (lv_at hl 0 rfl) ?_
    refine zc_VV (As := []) (rest := []) ⟨hx, hb, hml, hown, hts⟩ (cwV 0 hts gX5_back_X5_forgetWhatFollowed rfl rfl rfl hd_X5_forgetWhatFollowed ⟨Nat.le_of_ble_eq_true rfl, Nat.le_of_ble_eq_true rfl⟩) (mt_X5_forgetWhatFollowed l hZ (sI σ 0 1 ((gI σ 0 1) - 1)) _  _ h) (rc_5 hZ hE hP kd0) hE hP hS rfl hl.1 rfl (Nat.le_of_ble_eq_true rfl) dX5_back_21 ⟨Nat.zero_le _, Nat.zero_le _⟩ (fun σ21 H locs h hP hS => ?_)
    refine lv_aload_n hx hb dX5_back_24 rfl (lv_at hl 0 rfl) ?_
    refine fg_5_1 hZ hx hb hts in5 hown hE hP kd0 lk61 dX5_back_25 ?_
    exact zr_I hx hb hr hlocks hP hS h dX5_back_28
  · have h := h.2 hc
    refine lv_bipush (v := (-3)) hx hb dX5_back_7 (by decide) ?_
    exact zr_I hx hb hr hlocks hP hS h dX5_back_9
theorem hd_X5_set : yX5_set.cls = RX5 ∧ yX5_set.cls ≠ "java/lang/invoke/MethodHandle" ∧ yX5_set.cls ≠ "java/lang/invoke/VarHandle" ∧ (parseMethodDescriptor yX5_set.desc).map (fun d => d.parameters.length) = some 2 := by decide +kernel
set_option maxHeartbeats 4000000 in
set_option maxRecDepth 100000 in
theorem mt_X5_set (l : Launch) {Z : ZW} (hZ : isC Z) (σ : SS) (sz : Nat) (x1 : Int32) (x2 : Int32) (K : SS → Int32 → Prop) (h : wp_X5_set σ x1 x2 K) : mtZ l yX5_set wsX5_set (rm9 1 23) Z [.ref (zq Z 0), .int x1, .int x2] σ sz (qcI Z K sz) := by
  refine Met.ofW (cc := cX5_set) (maxL := 5) (ret := (some .int)) (by decide) rfl ?_
  intro p e s m args below meth c s₁ B hml hv
  obtain ⟨hargs, hsz, hP, hE1, hE2, hE3⟩ := hv
  subst hsz
  have hE : envZ Z s := ⟨hE1, hE2, hE3⟩
  have hx := B.exec
  have hb := B.bytes
  have hr := B.returns
  have hlocks := B.notSynchronized
  have hts := atoms_spec (ws := wsX5_set) B.pre
  have hown : s.vm.findClass RX5 = some m.cls := findClass_of_methodNamed B.named
  have hS : SZ Z s s.heap [] := va_S.rf
  obtain ⟨ls, hef, hl⟩ := z_entry m hargs (n := 5) (Nat.le_of_ble_eq_true rfl)
  rw [hef]
  have hl : lv_has ls 5 [(0, .ref (zq Z 0)), (1, .int x1), (2, .int x2)] := hl
  have in5 : ∀ w ∈ u_ws RX5 TX5 15, w ∈ wsX5_set := by decide +kernel
  have lk13 := hts (.fieldLink RX5 13 "BeatDoubts" "period" "I") (by decide +kernel)
  have lk17 := hts (.fieldLink RX5 17 "BeatDoubts" "window" "I") (by decide +kernel)
  have B11 : ∀ (σ : SS) (x1 : Int32) (x2 : Int32) (k0 : Int32) (H : Heap) (locs : List Loc) (ls : Array Slot), bl_X5_set_11 K σ x1 x2 k0 → PZ Z σ H → SZ Z s H locs → lv_has ls 5 [(0, .ref (zq Z 0)), (1, .int x1), (2, .int x2)] → W p l e (headSpec wsX5_set (rm9 1 23)).room s m args below meth c H locs 0 0 (MQ below (qcI Z K s.heap.size) args s 0 0 (aZ Z s.heap.size)) (F0 m 11 ls [.int k0]) := by
    intro σ x1 x2 k0 H locs ls h hP hS hl
    unfold bl_X5_set_11 at h
    refine lv_istore_n (lv' := [(3, .int k0), (0, .ref (zq Z 0)), (1, .int x1), (2, .int x2)]) hx hb dX5_set_11 rfl hl (by decide) rfl (fun ls hl => ?_)
    refine lv_iload_n hx hb dX5_set_12 rfl (lv_at hl 2 rfl) ?_
    refine lv_i2l hx hb dX5_set_13 rfl ?_
    refine lv_iconst (v := 0) hx hb dX5_set_14 (by decide) ?_
    refine lv_iconst (v := 1) hx hb dX5_set_15 (by decide) ?_
    refine zc_SI (As := [.long x1.toInt64, .int 0, .int 1]) (rest := []) ⟨hx, hb, hml, hown, hts⟩ (va_cwS 3 hts gX5_set_X5_isWithin rfl rfl rfl hd_X5_isWithin ⟨Nat.le_of_ble_eq_true rfl, Nat.le_of_ble_eq_true rfl⟩) (mt_X5_isWithin l hZ σ _ x1.toInt64 0 1 _ h) hE hP hS rfl hl.1 rfl (Nat.le_of_ble_eq_true rfl) dX5_set_16 ⟨Nat.zero_le _, Nat.zero_le _⟩ (fun r16 σ16 H locs h hP hS => ?_)
    refine lv_if_eq (tgt := 32) hx hb dX5_set_19 (by decide) (fun hc => ?_) (fun hc => ?_)
    · have h := h.1 hc
      refine lv_bipush (v := (-2)) hx hb dX5_set_32 (by decide) ?_
      exact zr_I hx hb hr hlocks hP hS h dX5_set_34
    · have h := h.2 hc
      refine lv_iload_n hx hb dX5_set_22 rfl (lv_at hl 3 rfl) ?_
      refine lv_i2l hx hb dX5_set_23 rfl ?_
      refine lv_iconst (v := 1) hx hb dX5_set_24 (by decide) ?_
      refine lv_iload_n hx hb dX5_set_25 rfl (lv_at hl 0 rfl) ?_
      refine zc_SI (As := [.long x2.toInt64, .int 1, .int k0]) (rest := []) ⟨hx, hb, hml, hown, hts⟩ (va_cwS 3 hts gX5_set_X5_isWithin rfl rfl rfl hd_X5_isWithin ⟨Nat.le_of_ble_eq_true rfl, Nat.le_of_ble_eq_true rfl⟩) (mt_X5_isWithin l hZ σ16 _ x2.toInt64 1 k0 _ h) hE hP hS rfl hl.1 rfl (Nat.le_of_ble_eq_true rfl) dX5_set_26 ⟨Nat.zero_le _, Nat.zero_le _⟩ (fun r26 σ26 H locs h hP hS => ?_)
      refine lv_if_ne (tgt := 35) hx hb dX5_set_29 (by decide) (fun hc => ?_) (fun hc => ?_)
      · have h := h.1 hc
        refine lv_aload_n hx hb dX5_set_35 rfl (lv_at hl 1 rfl) ?_
        refine zc_VV (As := []) (rest := []) ⟨hx, hb, hml, hown, hts⟩ (cwV 0 hts gX5_set_X5_forgetWhatFollowed rfl rfl rfl hd_X5_forgetWhatFollowed ⟨Nat.le_of_ble_eq_true rfl, Nat.le_of_ble_eq_true rfl⟩) (mt_X5_forgetWhatFollowed l hZ σ26 _  _ h) (rc_5 hZ hE hP kd0) hE hP hS rfl hl.1 rfl (Nat.le_of_ble_eq_true rfl) dX5_set_36 ⟨Nat.zero_le _, Nat.zero_le _⟩ (fun σ36 H locs h hP hS => ?_)
        refine lv_iload_n hx hb dX5_set_39 rfl (lv_at hl 2 rfl) ?_
        refine lv_if_ne (tgt := 57) hx hb dX5_set_40 (by decide) (fun hc => ?_) (fun hc => ?_)
        · have h := h.1 hc
          refine lv_aload_n hx hb dX5_set_57 rfl (lv_at hl 1 rfl) ?_
          refine fg_5_3 hZ hx hb hts in5 hown hE hP kd0 lk17 dX5_set_58 ?_
          refine lv_istore (lv' := [(4, .int (gI σ36 0 3)), (3, .int k0), (0, .ref (zq Z 0)), (1, .int x1), (2, .int x2)]) hx hb dX5_set_61 hl (by decide) rfl (fun ls hl => ?_)
          refine lv_aload_n hx hb dX5_set_63 rfl (lv_at hl 2 rfl) ?_
          refine lv_iload_n hx hb dX5_set_64 rfl (lv_at hl 4 rfl) ?_
          refine fp_5_3 hZ hx hb hts in5 hown hE hP hS kd0 lk17 dX5_set_65 (fun H locs hP hS => ?_)
          refine lv_iload hx hb dX5_set_68 (lv_at hl 0 rfl) ?_
          exact zr_I hx hb hr hlocks hP hS h dX5_set_70
        · have h := h.2 hc
          refine lv_aload_n hx hb dX5_set_43 rfl (lv_at hl 1 rfl) ?_
          refine fg_5_2 hZ hx hb hts in5 hown hE hP kd0 lk13 dX5_set_44 ?_
          refine lv_istore (lv' := [(4, .int (gI σ36 0 2)), (3, .int k0), (0, .ref (zq Z 0)), (1, .int x1), (2, .int x2)]) hx hb dX5_set_47 hl (by decide) rfl (fun ls hl => ?_)
          refine lv_aload_n hx hb dX5_set_49 rfl (lv_at hl 2 rfl) ?_
          refine lv_iload_n hx hb dX5_set_50 rfl (lv_at hl 4 rfl) ?_
          refine fp_5_2 hZ hx hb hts in5 hown hE hP hS kd0 lk13 dX5_set_51 (fun H locs hP hS => ?_)
          refine lv_goto (tgt := 68) hx hb dX5_set_54 (by decide) ?_
          refine lv_iload hx hb dX5_set_68 (lv_at hl 0 rfl) ?_
          exact zr_I hx hb hr hlocks hP hS h dX5_set_70
      · have h := h.2 hc
        refine lv_bipush (v := (-2)) hx hb dX5_set_32 (by decide) ?_
        exact zr_I hx hb hr hlocks hP hS h dX5_set_34
  unfold wp_X5_set at h
  refine lv_iload_n hx hb dX5_set_0 rfl (lv_at hl 1 rfl) ?_
  refine lv_if_ne (tgt := 9) hx hb dX5_set_1 (by decide) (fun hc => ?_) (fun hc => ?_)
  · have h := h.1 hc
    refine lv_bipush (v := 16) hx hb dX5_set_9 (by decide) ?_
    exact B11 σ x1 x2 16 _ _ _ h hP hS (lv_sub hl [0, 1, 2] rfl)
  · have h := h.2 hc
    refine lv_bipush (v := 50) hx hb dX5_set_4 (by decide) ?_
    refine lv_goto (tgt := 11) hx hb dX5_set_6 (by decide) ?_
    exact B11 σ x1 x2 50 _ _ _ h hP hS (lv_sub hl [0, 1, 2] rfl)
theorem hd_X5_silence : yX5_silence.cls = RX5 ∧ yX5_silence.cls ≠ "java/lang/invoke/MethodHandle" ∧ yX5_silence.cls ≠ "java/lang/invoke/VarHandle" ∧ (parseMethodDescriptor yX5_silence.desc).map (fun d => d.parameters.length) = some 1 := by decide +kernel
set_option maxHeartbeats 4000000 in
set_option maxRecDepth 100000 in
theorem mt_X5_silence (l : Launch) {Z : ZW} (hZ : isC Z) (σ : SS) (sz : Nat) (x1 : Int32) (K : SS → Int32 → Prop) (h : wp_X5_silence σ x1 K) : mtZ l yX5_silence wsX5_silence (rm9 1 23) Z [.ref (zq Z 0), .int x1] σ sz (qcI Z K sz) := by
  refine Met.ofW (cc := cX5_silence) (maxL := 3) (ret := (some .int)) (by decide) rfl ?_
  intro p e s m args below meth c s₁ B hml hv
  obtain ⟨hargs, hsz, hP, hE1, hE2, hE3⟩ := hv
  subst hsz
  have hE : envZ Z s := ⟨hE1, hE2, hE3⟩
  have hx := B.exec
  have hb := B.bytes
  have hr := B.returns
  have hlocks := B.notSynchronized
  have hts := atoms_spec (ws := wsX5_silence) B.pre
  have hown : s.vm.findClass RX5 = some m.cls := findClass_of_methodNamed B.named
  have hS : SZ Z s s.heap [] := va_S.rf
  obtain ⟨ls, hef, hl⟩ := z_entry m hargs (n := 3) (Nat.le_of_ble_eq_true rfl)
  rw [hef]
  have hl : lv_has ls 3 [(0, .ref (zq Z 0)), (1, .int x1)] := hl
  have in5 : ∀ w ∈ u_ws RX5 TX5 15, w ∈ wsX5_silence := by decide +kernel
  have lk20 := hts (.fieldLink RX5 20 "BeatDoubts" "silence" "I") (by decide +kernel)
  have B20 : ∀ (σ : SS) (x1 : Int32) (H : Heap) (locs : List Loc) (ls : Array Slot), bl_X5_silence_20 K σ x1 → PZ Z σ H → SZ Z s H locs → lv_has ls 3 [(0, .ref (zq Z 0)), (1, .int x1)] → W p l e (headSpec wsX5_silence (rm9 1 23)).room s m args below meth c H locs 0 0 (MQ below (qcI Z K s.heap.size) args s 0 0 (aZ Z s.heap.size)) (F0 m 20 ls []) := by
    intro σ x1 H locs ls h hP hS hl
    unfold bl_X5_silence_20 at h
    refine lv_aload_n hx hb dX5_silence_20 rfl (lv_at hl 0 rfl) ?_
    refine fg_5_4 hZ hx hb hts in5 hown hE hP kd0 lk20 dX5_silence_21 ?_
    refine lv_istore_n (lv' := [(2, .int (gI σ 0 4)), (0, .ref (zq Z 0)), (1, .int x1)]) hx hb dX5_silence_24 rfl hl (by decide) rfl (fun ls hl => ?_)
    refine lv_aload_n hx hb dX5_silence_25 rfl (lv_at hl 1 rfl) ?_
    refine lv_iload_n hx hb dX5_silence_26 rfl (lv_at hl 2 rfl) ?_
    refine fp_5_4 hZ hx hb hts in5 hown hE hP hS kd0 lk20 dX5_silence_27 (fun H locs hP hS => ?_)
    refine lv_aload_n hx hb dX5_silence_30 rfl (lv_at hl 1 rfl) ?_
    refine zc_VV (As := []) (rest := []) ⟨hx, hb, hml, hown, hts⟩ (cwV 0 hts gX5_silence_X5_forgetWhatFollowed rfl rfl rfl hd_X5_forgetWhatFollowed ⟨Nat.le_of_ble_eq_true rfl, Nat.le_of_ble_eq_true rfl⟩) (mt_X5_forgetWhatFollowed l hZ (sI σ 0 4 x1) _  _ h) (rc_5 hZ hE hP kd0) hE hP hS rfl hl.1 rfl (Nat.le_of_ble_eq_true rfl) dX5_silence_31 ⟨Nat.zero_le _, Nat.zero_le _⟩ (fun σ31 H locs h hP hS => ?_)
    refine lv_iload_n hx hb dX5_silence_34 rfl (lv_at hl 0 rfl) ?_
    exact zr_I hx hb hr hlocks hP hS h dX5_silence_35
  unfold wp_X5_silence at h
  refine lv_iload_n hx hb dX5_silence_0 rfl (lv_at hl 1 rfl) ?_
  refine lv_i2l hx hb dX5_silence_1 rfl ?_
  refine lv_iconst (v := 0) hx hb dX5_silence_2 (by decide) ?_
  refine lv_sipush (v := 5000) hx hb dX5_silence_3 (by decide) ?_
  refine zc_SI (As := [.long x1.toInt64, .int 0, .int 5000]) (rest := []) ⟨hx, hb, hml, hown, hts⟩ (va_cwS 3 hts gX5_silence_X5_isWithin rfl rfl rfl hd_X5_isWithin ⟨Nat.le_of_ble_eq_true rfl, Nat.le_of_ble_eq_true rfl⟩) (mt_X5_isWithin l hZ σ _ x1.toInt64 0 5000 _ h) hE hP hS rfl hl.1 rfl (Nat.le_of_ble_eq_true rfl) dX5_silence_6 ⟨Nat.zero_le _, Nat.zero_le _⟩ (fun r6 σ6 H locs h hP hS => ?_)
  refine lv_if_ne (tgt := 20) hx hb dX5_silence_9 (by decide) (fun hc => ?_) (fun hc => ?_)
  · have h := h.1 hc
    exact B20 σ6 x1 _ _ _ h hP hS (lv_sub hl [0, 1] rfl)
  · have h := h.2 hc
    refine lv_iload_n hx hb dX5_silence_12 rfl (lv_at hl 1 rfl) ?_
    refine lv_iconst (v := (-1)) hx hb dX5_silence_13 (by decide) ?_
    refine lv_icmp_eq (tgt := 20) hx hb dX5_silence_14 (by decide) (fun hc => ?_) (fun hc => ?_)
    · have h := h.1 hc
      exact B20 σ6 x1 _ _ _ h hP hS (lv_sub hl [0, 1] rfl)
    · have h := h.2 hc
      refine lv_bipush (v := (-2)) hx hb dX5_silence_17 (by decide) ?_
      exact zr_I hx hb hr hlocks hP hS h dX5_silence_19
theorem hd_X5_find : yX5_find.cls = RX5 ∧ yX5_find.cls ≠ "java/lang/invoke/MethodHandle" ∧ yX5_find.cls ≠ "java/lang/invoke/VarHandle" ∧ (parseMethodDescriptor yX5_find.desc).map (fun d => d.parameters.length) = some 1 := by decide +kernel
set_option maxHeartbeats 4000000 in
set_option maxRecDepth 100000 in
theorem mt_X5_find (l : Launch) {Z : ZW} (hZ : isC Z) (σ : SS) (sz : Nat) (x1 : Int32) (K : SS → Int32 → Prop) (h : wp_X5_find σ x1 K) : mtZ l yX5_find wsX5_find (rm9 0 0) Z [.ref (zq Z 0), .int x1] σ sz (qcI Z K sz) := by
  refine Met.ofW (cc := cX5_find) (maxL := 2) (ret := (some .int)) (by decide) rfl ?_
  intro p e s m args below meth c s₁ B hml hv
  obtain ⟨hargs, hsz, hP, hE1, hE2, hE3⟩ := hv
  subst hsz
  have hE : envZ Z s := ⟨hE1, hE2, hE3⟩
  have hx := B.exec
  have hb := B.bytes
  have hr := B.returns
  have hlocks := B.notSynchronized
  have hts := atoms_spec (ws := wsX5_find) B.pre
  have hown : s.vm.findClass RX5 = some m.cls := findClass_of_methodNamed B.named
  have hS : SZ Z s s.heap [] := va_S.rf
  obtain ⟨ls, hef, hl⟩ := z_entry m hargs (n := 2) (Nat.le_of_ble_eq_true rfl)
  rw [hef]
  have hl : lv_has ls 2 [(0, .ref (zq Z 0)), (1, .int x1)] := hl
  have in5 : ∀ w ∈ u_ws RX5 TX5 15, w ∈ wsX5_find := by decide +kernel
  have lk282 := hts (.fieldLink RX5 282 "BeatDoubts" "latestFinding" "I") (by decide +kernel)
  unfold wp_X5_find at h
  refine lv_aload_n hx hb dX5_find_0 rfl (lv_at hl 0 rfl) ?_
  refine lv_iload_n hx hb dX5_find_1 rfl (lv_at hl 1 rfl) ?_
  refine fp_5_8 hZ hx hb hts in5 hown hE hP hS kd0 lk282 dX5_find_2 (fun H locs hP hS => ?_)
  refine lv_bipush (v := (-10)) hx hb dX5_find_5 (by decide) ?_
  refine lv_iload_n hx hb dX5_find_7 rfl (lv_at hl 1 rfl) ?_
  refine lv_isub hx hb dX5_find_8 ?_
  exact zr_I hx hb hr hlocks hP hS h dX5_find_9
theorem hd_X5_isSheet : yX5_isSheet.cls ≠ "java/lang/invoke/MethodHandle" ∧ yX5_isSheet.cls ≠ "java/lang/invoke/VarHandle" ∧ (parseMethodDescriptor yX5_isSheet.desc).map (fun d => d.parameters.length) = some 1 := by decide +kernel
set_option maxHeartbeats 4000000 in
set_option maxRecDepth 100000 in
theorem mt_X5_isSheet (l : Launch) {Z : ZW} (hZ : isC Z) (σ : SS) (sz : Nat) (x0 : Int32) (K : SS → Int32 → Prop) (h : wp_X5_isSheet σ x0 K) : mtZ l yX5_isSheet wsX5_isSheet (rm9 1 23) Z [.int x0] σ sz (qcI Z K sz) := by
  refine Met.ofW (cc := cX5_isSheet) (maxL := 1) (ret := (some .boolean)) (by decide) rfl ?_
  intro p e s m args below meth c s₁ B hml hv
  obtain ⟨hargs, hsz, hP, hE1, hE2, hE3⟩ := hv
  subst hsz
  have hE : envZ Z s := ⟨hE1, hE2, hE3⟩
  have hx := B.exec
  have hb := B.bytes
  have hr := B.returns
  have hlocks := B.notSynchronized
  have hts := atoms_spec (ws := wsX5_isSheet) B.pre
  have hown : s.vm.findClass RX5 = some m.cls := findClass_of_methodNamed B.named
  have hS : SZ Z s s.heap [] := va_S.rf
  obtain ⟨ls, hef, hl⟩ := z_entry m hargs (n := 1) (Nat.le_of_ble_eq_true rfl)
  rw [hef]
  have hl : lv_has ls 1 [(0, .int x0)] := hl
  unfold wp_X5_isSheet at h
  refine lv_iload_n hx hb dX5_isSheet_0 rfl (lv_at hl 0 rfl) ?_
  refine lv_i2l hx hb dX5_isSheet_1 rfl ?_
  refine lv_iconst (v := 0) hx hb dX5_isSheet_2 (by decide) ?_
  refine lv_iconst (v := 3) hx hb dX5_isSheet_3 (by decide) ?_
  refine zc_SI (As := [.long x0.toInt64, .int 0, .int 3]) (rest := []) ⟨hx, hb, hml, hown, hts⟩ (va_cwS 3 hts gX5_isSheet_X5_isWithin rfl rfl rfl hd_X5_isWithin ⟨Nat.le_of_ble_eq_true rfl, Nat.le_of_ble_eq_true rfl⟩) (mt_X5_isWithin l hZ σ _ x0.toInt64 0 3 _ h) hE hP hS rfl hl.1 rfl (Nat.le_of_ble_eq_true rfl) dX5_isSheet_4 ⟨Nat.zero_le _, Nat.zero_le _⟩ (fun r4 σ4 H locs h hP hS => ?_)
  exact zr_Z hx hb hr hlocks hP hS h.1 h.2 dX5_isSheet_7
theorem hd_X5_refusalOfRow : yX5_refusalOfRow.cls = RX5 ∧ yX5_refusalOfRow.cls ≠ "java/lang/invoke/MethodHandle" ∧ yX5_refusalOfRow.cls ≠ "java/lang/invoke/VarHandle" ∧ (parseMethodDescriptor yX5_refusalOfRow.desc).map (fun d => d.parameters.length) = some 2 := by decide +kernel
set_option maxHeartbeats 4000000 in
set_option maxRecDepth 100000 in
theorem mt_X5_refusalOfRow (l : Launch) {Z : ZW} (hZ : isC Z) (σ : SS) (sz : Nat) (x1 : Int32) (x2 : Int32) (K : SS → Int32 → Prop) (h : wp_X5_refusalOfRow σ x1 x2 K) : mtZ l yX5_refusalOfRow wsX5_refusalOfRow (rm9 2 43) Z [.ref (zq Z 0), .int x1, .int x2] σ sz (qcI Z K sz) := by
  refine Met.ofW (cc := cX5_refusalOfRow) (maxL := 3) (ret := (some .int)) (by decide) rfl ?_
  intro p e s m args below meth c s₁ B hml hv
  obtain ⟨hargs, hsz, hP, hE1, hE2, hE3⟩ := hv
  subst hsz
  have hE : envZ Z s := ⟨hE1, hE2, hE3⟩
  have hx := B.exec
  have hb := B.bytes
  have hr := B.returns
  have hlocks := B.notSynchronized
  have hts := atoms_spec (ws := wsX5_refusalOfRow) B.pre
  have hown : s.vm.findClass RX5 = some m.cls := findClass_of_methodNamed B.named
  have hS : SZ Z s s.heap [] := va_S.rf
  obtain ⟨ls, hef, hl⟩ := z_entry m hargs (n := 3) (Nat.le_of_ble_eq_true rfl)
  rw [hef]
  have hl : lv_has ls 3 [(0, .ref (zq Z 0)), (1, .int x1), (2, .int x2)] := hl
  have in3 : ∀ w ∈ u_ws RX3 TX3 6, w ∈ wsX5_refusalOfRow := by decide +kernel
  have in5 : ∀ w ∈ u_ws RX5 TX5 15, w ∈ wsX5_refusalOfRow := by decide +kernel
  have lk228 := hts (.fieldLink RX5 228 "BeatDoubts$Sheet" "isLost" "Z") (by decide +kernel)
  have lk241 := hts (.fieldLink RX5 241 "BeatDoubts$Sheet" "form" "I") (by decide +kernel)
  have lk32 := hts (.fieldLink RX5 32 "BeatDoubts" "sheets" "[LBeatDoubts$Sheet;") (by decide +kernel)
  unfold wp_X5_refusalOfRow at h
  refine lv_iload_n hx hb dX5_refusalOfRow_0 rfl (lv_at hl 1 rfl) ?_
  refine zc_SI (As := [.int x1]) (rest := []) ⟨hx, hb, hml, hown, hts⟩ (va_cwS 1 hts gX5_refusalOfRow_X5_isSheet rfl rfl rfl hd_X5_isSheet ⟨Nat.le_of_ble_eq_true rfl, Nat.le_of_ble_eq_true rfl⟩) (mt_X5_isSheet l hZ σ _ x1 _ h) hE hP hS rfl hl.1 rfl (Nat.le_of_ble_eq_true rfl) dX5_refusalOfRow_1 ⟨Nat.zero_le _, Nat.zero_le _⟩ (fun r1 σ1 H locs h hP hS => ?_)
  refine lv_if_ne (tgt := 10) hx hb dX5_refusalOfRow_4 (by decide) (fun hc => ?_) (fun hc => ?_)
  · have h := h.1 hc
    refine lv_aload_n hx hb dX5_refusalOfRow_10 rfl (lv_at hl 0 rfl) ?_
    refine fg_5_7 hZ hx hb hts in5 hown hE hP kd0 lk32 dX5_refusalOfRow_11 ?_
    refine lv_iload_n hx hb dX5_refusalOfRow_14 rfl (lv_at hl 1 rfl) ?_
    obtain ⟨hin15, h⟩ := h
    refine al_17 hZ hx hb hE hP kr_5_7 hin15 dX5_refusalOfRow_15 ?_
    refine fg_3_0 hZ hx hb hts in3 hown hE hP (kSi hin15) lk228 dX5_refusalOfRow_16 ?_
    refine lv_if_eq (tgt := 28) hx hb dX5_refusalOfRow_19 (by decide) (fun hc => ?_) (fun hc => ?_)
    · have h := h.1 hc
      refine lv_aload_n hx hb dX5_refusalOfRow_28 rfl (lv_at hl 0 rfl) ?_
      refine fg_5_7 hZ hx hb hts in5 hown hE hP kd0 lk32 dX5_refusalOfRow_29 ?_
      refine lv_iload_n hx hb dX5_refusalOfRow_32 rfl (lv_at hl 1 rfl) ?_
      obtain ⟨hin33, h⟩ := h
      refine al_17 hZ hx hb hE hP kr_5_7 hin33 dX5_refusalOfRow_33 ?_
      refine fg_3_1 hZ hx hb hts in3 hown hE hP (kSi hin33) lk241 dX5_refusalOfRow_34 ?_
      refine lv_iload_n hx hb dX5_refusalOfRow_37 rfl (lv_at hl 2 rfl) ?_
      refine lv_icmp_ne (tgt := 45) hx hb dX5_refusalOfRow_38 (by decide) (fun hc => ?_) (fun hc => ?_)
      · have h := h.1 hc
        refine lv_aload_n hx hb dX5_refusalOfRow_45 rfl (lv_at hl 0 rfl) ?_
        refine lv_iconst (v := 3) hx hb dX5_refusalOfRow_46 (by decide) ?_
        refine zc_VI (As := [.int 3]) (rest := []) ⟨hx, hb, hml, hown, hts⟩ (cwV 1 hts gX5_refusalOfRow_X5_find rfl rfl rfl hd_X5_find ⟨Nat.le_of_ble_eq_true rfl, Nat.le_of_ble_eq_true rfl⟩) (mt_X5_find l hZ σ1 _ 3 _ h) (rc_5 hZ hE hP kd0) hE hP hS rfl hl.1 rfl (Nat.le_of_ble_eq_true rfl) dX5_refusalOfRow_47 ⟨Nat.zero_le _, Nat.zero_le _⟩ (fun r47 σ47 H locs h hP hS => ?_)
        exact zr_I hx hb hr hlocks hP hS h dX5_refusalOfRow_50
      · have h := h.2 hc
        refine lv_iconst (v := 0) hx hb dX5_refusalOfRow_41 (by decide) ?_
        refine lv_goto (tgt := 50) hx hb dX5_refusalOfRow_42 (by decide) ?_
        exact zr_I hx hb hr hlocks hP hS h dX5_refusalOfRow_50
    · have h := h.2 hc
      refine lv_aload_n hx hb dX5_refusalOfRow_22 rfl (lv_at hl 0 rfl) ?_
      refine lv_iconst (v := 1) hx hb dX5_refusalOfRow_23 (by decide) ?_
      refine zc_VI (As := [.int 1]) (rest := []) ⟨hx, hb, hml, hown, hts⟩ (cwV 1 hts gX5_refusalOfRow_X5_find rfl rfl rfl hd_X5_find ⟨Nat.le_of_ble_eq_true rfl, Nat.le_of_ble_eq_true rfl⟩) (mt_X5_find l hZ σ1 _ 1 _ h) (rc_5 hZ hE hP kd0) hE hP hS rfl hl.1 rfl (Nat.le_of_ble_eq_true rfl) dX5_refusalOfRow_24 ⟨Nat.zero_le _, Nat.zero_le _⟩ (fun r24 σ24 H locs h hP hS => ?_)
      exact zr_I hx hb hr hlocks hP hS h dX5_refusalOfRow_27
  · have h := h.2 hc
    refine lv_bipush (v := (-2)) hx hb dX5_refusalOfRow_7 (by decide) ?_
    exact zr_I hx hb hr hlocks hP hS h dX5_refusalOfRow_9
theorem hd_X5_read : yX5_read.cls = RX5 ∧ yX5_read.cls ≠ "java/lang/invoke/MethodHandle" ∧ yX5_read.cls ≠ "java/lang/invoke/VarHandle" ∧ (parseMethodDescriptor yX5_read.desc).map (fun d => d.parameters.length) = some 1 := by decide +kernel
set_option maxHeartbeats 4000000 in
set_option maxRecDepth 100000 in
theorem mt_X5_read (l : Launch) {Z : ZW} (hZ : isC Z) (σ : SS) (sz : Nat) (x1 : Int32) (K : SS → Int32 → Prop) (h : wp_X5_read σ x1 K) : mtZ l yX5_read wsX5_read (rm9 3 65) Z [.ref (zq Z 0), .int x1] σ sz (qcI Z K sz) := by
  refine Met.ofW (cc := cX5_read) (maxL := 5) (ret := (some .int)) (by decide) rfl ?_
  intro p e s m args below meth c s₁ B hml hv
  obtain ⟨hargs, hsz, hP, hE1, hE2, hE3⟩ := hv
  subst hsz
  have hE : envZ Z s := ⟨hE1, hE2, hE3⟩
  have hx := B.exec
  have hb := B.bytes
  have hr := B.returns
  have hlocks := B.notSynchronized
  have hts := atoms_spec (ws := wsX5_read) B.pre
  have hown : s.vm.findClass RX5 = some m.cls := findClass_of_methodNamed B.named
  have hS : SZ Z s s.heap [] := va_S.rf
  obtain ⟨ls, hef, hl⟩ := z_entry m hargs (n := 5) (Nat.le_of_ble_eq_true rfl)
  rw [hef]
  have hl : lv_has ls 5 [(0, .ref (zq Z 0)), (1, .int x1)] := hl
  have in3 : ∀ w ∈ u_ws RX3 TX3 6, w ∈ wsX5_read := by decide +kernel
  have in5 : ∀ w ∈ u_ws RX5 TX5 15, w ∈ wsX5_read := by decide +kernel
  have lk32 := hts (.fieldLink RX5 32 "BeatDoubts" "sheets" "[LBeatDoubts$Sheet;") (by decide +kernel)
  have lk61 := hts (.fieldLink RX5 61 "BeatDoubts" "beatCount" "I") (by decide +kernel)
  have lk87 := hts (.fieldLink RX5 87 "BeatDoubts$Sheet" "size" "I") (by decide +kernel)
  have lk90 := hts (.fieldLink RX5 90 "BeatDoubts$Sheet" "longs" "[J") (by decide +kernel)
  have B23 : ∀ (n : Nat) (σ : SS) (y3 : Nat) (x4 : Int32) (H : Heap) (locs : List Loc) (ls : Array Slot), fx3 (lb_X5_read_23 K) n σ y3 x4 → PZ Z σ H → SZ Z s H locs → kd y3 = 3 → lv_has ls 5 [(0, .ref (zq Z 0)), (3, .ref (zq Z y3)), (4, .int x4)] → W p l e (headSpec wsX5_read (rm9 3 65)).room s m args below meth c H locs 0 0 (MQ below (qcI Z K s.heap.size) args s 0 0 (aZ Z s.heap.size)) (F0 m 23 ls []) := by
    intro n23
    induction n23 with
    | zero => intro σ y3 x4 H locs ls h; exact h.elim
    | succ n23 ih23 =>
      intro σ y3 x4 H locs ls h hP hS hy3 hl
      have h : lb_X5_read_23 K (fx3 (lb_X5_read_23 K) n23) σ y3 x4 := h
      unfold lb_X5_read_23 at h
      refine lv_iload hx hb dX5_read_23 (lv_at hl 2 rfl) ?_
      refine lv_aload_n hx hb dX5_read_25 rfl (lv_at hl 1 rfl) ?_
      refine fg_3_2 hZ hx hb hts in3 hown hE hP hy3 lk87 dX5_read_26 ?_
      refine lv_icmp_ge (tgt := 72) hx hb dX5_read_29 (by decide) (fun hc => ?_) (fun hc => ?_)
      · have h := h.1 hc
        refine lv_iload hx hb dX5_read_72 (lv_at hl 2 rfl) ?_
        exact zr_I hx hb hr hlocks hP hS h dX5_read_74
      · have h := h.2 hc
        refine lv_aload_n hx hb dX5_read_32 rfl (lv_at hl 0 rfl) ?_
        refine fg_5_1 hZ hx hb hts in5 hown hE hP kd0 lk61 dX5_read_33 ?_
        refine lv_bipush (v := 40) hx hb dX5_read_36 (by decide) ?_
        refine lv_icmp_ge (tgt := 72) hx hb dX5_read_38 (by decide) (fun hc => ?_) (fun hc => ?_)
        · have h := h.1 hc
          refine lv_iload hx hb dX5_read_72 (lv_at hl 2 rfl) ?_
          exact zr_I hx hb hr hlocks hP hS h dX5_read_74
        · have h := h.2 hc
          refine lv_aload_n hx hb dX5_read_41 rfl (lv_at hl 1 rfl) ?_
          refine fg_3_3 hZ hx hb hts in3 hown hE hP hy3 lk90 dX5_read_42 ?_
          refine lv_iload hx hb dX5_read_45 (lv_at hl 2 rfl) ?_
          obtain ⟨hin, h⟩ := h
          refine al_14 hZ hx hb hE hP (kr_3_3 hy3) hin dX5_read_47 ?_
          refine zc_SI (As := [.long (gL σ (y3 + 1) x4.toNatClampNeg)]) (rest := []) ⟨hx, hb, hml, hown, hts⟩ (va_cwS 1 hts gX5_read_X5_isDelay rfl rfl rfl hd_X5_isDelay ⟨Nat.le_of_ble_eq_true rfl, Nat.le_of_ble_eq_true rfl⟩) (mt_X5_isDelay l hZ σ _ (gL σ (y3 + 1) x4.toNatClampNeg) _ h) hE hP hS rfl hl.1 rfl (Nat.le_of_ble_eq_true rfl) dX5_read_48 ⟨Nat.zero_le _, Nat.zero_le _⟩ (fun r48 σ48 H locs h hP hS => ?_)
          refine lv_if_eq (tgt := 72) hx hb dX5_read_51 (by decide) (fun hc => ?_) (fun hc => ?_)
          · have h := h.1 hc
            refine lv_iload hx hb dX5_read_72 (lv_at hl 2 rfl) ?_
            exact zr_I hx hb hr hlocks hP hS h dX5_read_74
          · have h := h.2 hc
            refine lv_aload_n hx hb dX5_read_54 rfl (lv_at hl 0 rfl) ?_
            refine lv_aload_n hx hb dX5_read_55 rfl (lv_at hl 1 rfl) ?_
            refine fg_3_3 hZ hx hb hts in3 hown hE hP hy3 lk90 dX5_read_56 ?_
            refine lv_iload hx hb dX5_read_59 (lv_at hl 2 rfl) ?_
            obtain ⟨hin, h⟩ := h
            refine al_14 hZ hx hb hE hP (kr_3_3 hy3) hin dX5_read_61 ?_
            refine lv_l2i hx hb dX5_read_62 rfl ?_
            refine zc_VV (As := [.int (gL σ48 (y3 + 1) x4.toNatClampNeg).toInt32]) (rest := []) ⟨hx, hb, hml, hown, hts⟩ (cwV 1 hts gX5_read_X5_addBeat rfl rfl rfl hd_X5_addBeat ⟨Nat.le_of_ble_eq_true rfl, Nat.le_of_ble_eq_true rfl⟩) (mt_X5_addBeat l hZ σ48 _ ((gL σ48 (y3 + 1) x4.toNatClampNeg).toInt32) _ h) (rc_5 hZ hE hP kd0) hE hP hS rfl hl.1 rfl (Nat.le_of_ble_eq_true rfl) dX5_read_63 ⟨Nat.zero_le _, Nat.zero_le _⟩ (fun σ63 H locs h hP hS => ?_)
            refine lv_iinc (v := (x4 + 1)) (lv' := [(4, .int (x4 + 1)), (0, .ref (zq Z 0)), (3, .ref (zq Z y3))]) hx hb dX5_read_66 hl (k := 2) rfl rfl (by decide) rfl (fun ls hl => ?_)
            refine lv_goto (tgt := 23) hx hb dX5_read_69 (by decide) ?_
            exact ih23 σ63 y3 (x4 + 1) _ _ _ h hP hS hy3 (lv_sub hl [1, 2, 0] rfl)
  unfold wp_X5_read at h
  refine lv_aload_n hx hb dX5_read_0 rfl (lv_at hl 0 rfl) ?_
  refine lv_iload_n hx hb dX5_read_1 rfl (lv_at hl 1 rfl) ?_
  refine lv_iconst (v := 0) hx hb dX5_read_2 (by decide) ?_
  refine zc_VI (As := [.int x1, .int 0]) (rest := []) ⟨hx, hb, hml, hown, hts⟩ (cwV 2 hts gX5_read_X5_refusalOfRow rfl rfl rfl hd_X5_refusalOfRow ⟨Nat.le_of_ble_eq_true rfl, Nat.le_of_ble_eq_true rfl⟩) (mt_X5_refusalOfRow l hZ σ _ x1 0 _ h) (rc_5 hZ hE hP kd0) hE hP hS rfl hl.1 rfl (Nat.le_of_ble_eq_true rfl) dX5_read_3 ⟨Nat.zero_le _, Nat.zero_le _⟩ (fun r3 σ3 H locs h hP hS => ?_)
  refine lv_istore_n (lv' := [(2, .int r3), (0, .ref (zq Z 0)), (1, .int x1)]) hx hb dX5_read_6 rfl hl (by decide) rfl (fun ls hl => ?_)
  refine lv_iload_n hx hb dX5_read_7 rfl (lv_at hl 0 rfl) ?_
  refine lv_if_eq (tgt := 13) hx hb dX5_read_8 (by decide) (fun hc => ?_) (fun hc => ?_)
  · have h := h.1 hc
    refine lv_aload_n hx hb dX5_read_13 rfl (lv_at hl 1 rfl) ?_
    refine fg_5_7 hZ hx hb hts in5 hown hE hP kd0 lk32 dX5_read_14 ?_
    refine lv_iload_n hx hb dX5_read_17 rfl (lv_at hl 2 rfl) ?_
    obtain ⟨hin18, h⟩ := h
    refine al_17 hZ hx hb hE hP kr_5_7 hin18 dX5_read_18 ?_
    refine lv_astore_n (lv' := [(3, .ref (zq Z (56 + 4 * x1.toNatClampNeg))), (2, .int r3), (0, .ref (zq Z 0)), (1, .int x1)]) hx hb dX5_read_19 rfl hl (by decide) rfl (fun ls hl => ?_)
    refine lv_iconst (v := 0) hx hb dX5_read_20 (by decide) ?_
    refine lv_istore (lv' := [(4, .int 0), (3, .ref (zq Z (56 + 4 * x1.toNatClampNeg))), (2, .int r3), (0, .ref (zq Z 0)), (1, .int x1)]) hx hb dX5_read_21 hl (by decide) rfl (fun ls hl => ?_)
    obtain ⟨n, h⟩ := h
    exact B23 n σ3 (56 + 4 * x1.toNatClampNeg) 0 _ _ _ h hP hS (kSi hin18) (lv_sub hl [3, 1, 0] rfl)
  · have h := h.2 hc
    refine lv_iload_n hx hb dX5_read_11 rfl (lv_at hl 0 rfl) ?_
    exact zr_I hx hb hr hlocks hP hS h dX5_read_12
