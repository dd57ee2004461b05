theorem hd_X6_goesAs : yX6_goesAs.cls = RX6 ∧ yX6_goesAs.cls ≠ "java/lang/invoke/MethodHandle" ∧ yX6_goesAs.cls ≠ "java/lang/invoke/VarHandle" ∧ (parseMethodDescriptor yX6_goesAs.desc).map (fun d => d.parameters.length) = some 1 := by decide +kernel
set_option maxHeartbeats 4000000 in
set_option maxRecDepth 100000 in
theorem mt_X6_goesAs (l : Launch) {Z : ZW} (hZ : isM Z) (σ : SS) (sz : Nat) (x1 : Int32) (K : SS → Prop) (h : wp_X6_goesAs σ x1 K) : mtZ l yX6_goesAs wsX6_goesAs (rm9 5 123) Z [.ref (zq Z 100), .int x1] σ sz (qcV Z K sz) := by
  refine Met.ofW (cc := cX6_goesAs) (maxL := 2) (ret := none) (by decide) rfl ?_
  intro p e s m args below meth c s₁ B hml hv
  obtain ⟨hargs, hsz, hP, hE1, hE2, hE3⟩ := hv
  subst hsz
  have hE : envZ Z s := ⟨hE1, hE2, hE3⟩
  have hx := B.exec
  have hb := B.bytes
  have hr := B.returns
  have hlocks := B.notSynchronized
  have hts := atoms_spec (ws := wsX6_goesAs) B.pre
  have hown : s.vm.findClass RX6 = some m.cls := findClass_of_methodNamed B.named
  have hS : SZ Z s s.heap [] := va_S.rf
  obtain ⟨ls, hef, hl⟩ := z_entry m hargs (n := 2) (Nat.le_of_ble_eq_true rfl)
  rw [hef]
  have hl : lv_has ls 2 [(0, .ref (zq Z 100)), (1, .int x1)] := hl
  have in6 : ∀ w ∈ u_ws RX6 TX6 28, w ∈ wsX6_goesAs := by decide +kernel
  have lk29 := hts (.fieldLink RX6 29 "BeatDoubtsModel" "sorts" "[I") (by decide +kernel)
  have lk32 := hts (.fieldLink RX6 32 "BeatDoubtsModel" "measures" "[I") (by decide +kernel)
  unfold wp_X6_goesAs at h
  refine lv_aload_n hx hb dX6_goesAs_0 rfl (lv_at hl 0 rfl) ?_
  refine lv_aload_n hx hb dX6_goesAs_1 rfl (lv_at hl 0 rfl) ?_
  refine fg_6_8 hZ hx hb hts in6 hown hE hP kd100 lk29 dX6_goesAs_2 ?_
  refine lv_iload_n hx hb dX6_goesAs_5 rfl (lv_at hl 1 rfl) ?_
  obtain ⟨hin, h⟩ := h
  refine al_21 hZ hx hb hE hP kr_6_8 hin dX6_goesAs_6 ?_
  refine lv_aload_n hx hb dX6_goesAs_7 rfl (lv_at hl 0 rfl) ?_
  refine fg_6_9 hZ hx hb hts in6 hown hE hP kd100 lk32 dX6_goesAs_8 ?_
  refine lv_iload_n hx hb dX6_goesAs_11 rfl (lv_at hl 1 rfl) ?_
  obtain ⟨hin, h⟩ := h
  refine al_21 hZ hx hb hE hP kr_6_9 hin dX6_goesAs_12 ?_
  refine zc_VV (As := [.int (gA σ 104 x1.toNatClampNeg), .int (gA σ 105 x1.toNatClampNeg)]) (rest := []) ⟨hx, hb, hml, hown, hts⟩ (cwV 2 hts gX6_goesAs_X6_goes rfl rfl rfl hd_X6_goes ⟨Nat.le_of_ble_eq_true rfl, Nat.le_of_ble_eq_true rfl⟩) (mt_X6_goes l hZ σ _ (gA σ 104 x1.toNatClampNeg) (gA σ 105 x1.toNatClampNeg) _ h) (rc_6 hZ hE hP kd100) hE hP hS rfl hl.1 rfl (Nat.le_of_ble_eq_true rfl) dX6_goesAs_13 ⟨Nat.zero_le _, Nat.zero_le _⟩ (fun σ13 H locs h hP hS => ?_)
  exact zr_V hx hb hr hlocks hP hS h dX6_goesAs_16
theorem hd_X6_isKept : yX6_isKept.cls = RX6 ∧ yX6_isKept.cls ≠ "java/lang/invoke/MethodHandle" ∧ yX6_isKept.cls ≠ "java/lang/invoke/VarHandle" ∧ (parseMethodDescriptor yX6_isKept.desc).map (fun d => d.parameters.length) = some 1 := by decide +kernel
set_option maxHeartbeats 4000000 in
set_option maxRecDepth 100000 in
theorem mt_X6_isKept (l : Launch) {Z : ZW} (hZ : isM Z) (σ : SS) (sz : Nat) (x1 : Int32) (K : SS → Int32 → Prop) (h : wp_X6_isKept σ x1 K) : mtZ l yX6_isKept wsX6_isKept (rm9 6 144) Z [.ref (zq Z 100), .int x1] σ sz (qcI Z K sz) := by
  refine Met.ofW (cc := cX6_isKept) (maxL := 2) (ret := (some .boolean)) (by decide) rfl ?_
  intro p e s m args below meth c s₁ B hml hv
  obtain ⟨hargs, hsz, hP, hE1, hE2, hE3⟩ := hv
  subst hsz
  have hE : envZ Z s := ⟨hE1, hE2, hE3⟩
  have hx := B.exec
  have hb := B.bytes
  have hr := B.returns
  have hlocks := B.notSynchronized
  have hts := atoms_spec (ws := wsX6_isKept) B.pre
  have hown : s.vm.findClass RX6 = some m.cls := findClass_of_methodNamed B.named
  have hS : SZ Z s s.heap [] := va_S.rf
  obtain ⟨ls, hef, hl⟩ := z_entry m hargs (n := 2) (Nat.le_of_ble_eq_true rfl)
  rw [hef]
  have hl : lv_has ls 2 [(0, .ref (zq Z 100)), (1, .int x1)] := hl
  have in6 : ∀ w ∈ u_ws RX6 TX6 28, w ∈ wsX6_isKept := by decide +kernel
  have lk169 := hts (.fieldLink RX6 169 "BeatDoubtsModel" "mistakes" "I") (by decide +kernel)
  have lk178 := hts (.fieldLink RX6 178 "BeatDoubtsModel" "lag" "I") (by decide +kernel)
  have lk35 := hts (.fieldLink RX6 35 "BeatDoubtsModel" "notices" "[I") (by decide +kernel)
  have lk38 := hts (.fieldLink RX6 38 "BeatDoubtsModel" "fews" "[I") (by decide +kernel)
  have B28 : ∀ (σ : SS) (x1 : Int32) (H : Heap) (locs : List Loc) (ls : Array Slot), bl_X6_isKept_28 K σ x1 → PZ Z σ H → SZ Z s H locs → lv_has ls 2 [(0, .ref (zq Z 100)), (1, .int x1)] → W p l e (headSpec wsX6_isKept (rm9 6 144)).room s m args below meth c H locs 0 0 (MQ below (qcI Z K s.heap.size) args s 0 0 (aZ Z s.heap.size)) (F0 m 28 ls []) := by
    intro σ x1 H locs ls h hP hS hl
    unfold bl_X6_isKept_28 at h
    refine lv_aload_n hx hb dX6_isKept_28 rfl (lv_at hl 0 rfl) ?_
    refine fg_6_11 hZ hx hb hts in6 hown hE hP kd100 lk38 dX6_isKept_29 ?_
    refine lv_iload_n hx hb dX6_isKept_32 rfl (lv_at hl 1 rfl) ?_
    obtain ⟨hin, h⟩ := h
    refine al_21 hZ hx hb hE hP kr_6_11 hin dX6_isKept_33 ?_
    refine lv_iconst (v := (-1)) hx hb dX6_isKept_34 (by decide) ?_
    refine lv_icmp_eq (tgt := 51) hx hb dX6_isKept_35 (by decide) (fun hc => ?_) (fun hc => ?_)
    · have h := h.1 hc
      refine lv_iconst (v := 1) hx hb dX6_isKept_51 (by decide) ?_
      refine lv_goto (tgt := 56) hx hb dX6_isKept_52 (by decide) ?_
      exact zr_Z hx hb hr hlocks hP hS (by decide) h dX6_isKept_56
    · have h := h.2 hc
      refine lv_aload_n hx hb dX6_isKept_38 rfl (lv_at hl 0 rfl) ?_
      refine fg_6_15 hZ hx hb hts in6 hown hE hP kd100 lk169 dX6_isKept_39 ?_
      refine lv_aload_n hx hb dX6_isKept_42 rfl (lv_at hl 0 rfl) ?_
      refine fg_6_11 hZ hx hb hts in6 hown hE hP kd100 lk38 dX6_isKept_43 ?_
      refine lv_iload_n hx hb dX6_isKept_46 rfl (lv_at hl 1 rfl) ?_
      obtain ⟨hin, h⟩ := h
      refine al_21 hZ hx hb hE hP kr_6_11 hin dX6_isKept_47 ?_
      refine lv_icmp_gt (tgt := 55) hx hb dX6_isKept_48 (by decide) (fun hc => ?_) (fun hc => ?_)
      · have h := h.1 hc
        refine lv_iconst (v := 0) hx hb dX6_isKept_55 (by decide) ?_
        exact zr_Z hx hb hr hlocks hP hS (by decide) h dX6_isKept_56
      · have h := h.2 hc
        refine lv_iconst (v := 1) hx hb dX6_isKept_51 (by decide) ?_
        refine lv_goto (tgt := 56) hx hb dX6_isKept_52 (by decide) ?_
        exact zr_Z hx hb hr hlocks hP hS (by decide) h dX6_isKept_56
  unfold wp_X6_isKept at h
  refine lv_aload_n hx hb dX6_isKept_0 rfl (lv_at hl 0 rfl) ?_
  refine lv_iload_n hx hb dX6_isKept_1 rfl (lv_at hl 1 rfl) ?_
  refine zc_VV (As := [.int x1]) (rest := []) ⟨hx, hb, hml, hown, hts⟩ (cwV 1 hts gX6_isKept_X6_goesAs rfl rfl rfl hd_X6_goesAs ⟨Nat.le_of_ble_eq_true rfl, Nat.le_of_ble_eq_true rfl⟩) (mt_X6_goesAs l hZ σ _ x1 _ h) (rc_6 hZ hE hP kd100) hE hP hS rfl hl.1 rfl (Nat.le_of_ble_eq_true rfl) dX6_isKept_2 ⟨Nat.zero_le _, Nat.zero_le _⟩ (fun σ2 H locs h hP hS => ?_)
  refine lv_aload_n hx hb dX6_isKept_5 rfl (lv_at hl 0 rfl) ?_
  refine fg_6_10 hZ hx hb hts in6 hown hE hP kd100 lk35 dX6_isKept_6 ?_
  refine lv_iload_n hx hb dX6_isKept_9 rfl (lv_at hl 1 rfl) ?_
  obtain ⟨hin, h⟩ := h
  refine al_21 hZ hx hb hE hP kr_6_10 hin dX6_isKept_10 ?_
  refine lv_iconst (v := (-1)) hx hb dX6_isKept_11 (by decide) ?_
  refine lv_icmp_eq (tgt := 28) hx hb dX6_isKept_12 (by decide) (fun hc => ?_) (fun hc => ?_)
  · have h := h.1 hc
    exact B28 σ2 x1 _ _ _ h hP hS (lv_sub hl [0, 1] rfl)
  · have h := h.2 hc
    refine lv_aload_n hx hb dX6_isKept_15 rfl (lv_at hl 0 rfl) ?_
    refine fg_6_18 hZ hx hb hts in6 hown hE hP kd100 lk178 dX6_isKept_16 ?_
    refine lv_aload_n hx hb dX6_isKept_19 rfl (lv_at hl 0 rfl) ?_
    refine fg_6_10 hZ hx hb hts in6 hown hE hP kd100 lk35 dX6_isKept_20 ?_
    refine lv_iload_n hx hb dX6_isKept_23 rfl (lv_at hl 1 rfl) ?_
    obtain ⟨hin, h⟩ := h
    refine al_21 hZ hx hb hE hP kr_6_10 hin dX6_isKept_24 ?_
    refine lv_icmp_gt (tgt := 55) hx hb dX6_isKept_25 (by decide) (fun hc => ?_) (fun hc => ?_)
    · have h := h.1 hc
      refine lv_iconst (v := 0) hx hb dX6_isKept_55 (by decide) ?_
      exact zr_Z hx hb hr hlocks hP hS (by decide) h dX6_isKept_56
    · have h := h.2 hc
      exact B28 σ2 x1 _ _ _ h hP hS (lv_sub hl [0, 1] rfl)
theorem hd_X6_forGood : yX6_forGood.cls = RX6 ∧ yX6_forGood.cls ≠ "java/lang/invoke/MethodHandle" ∧ yX6_forGood.cls ≠ "java/lang/invoke/VarHandle" ∧ (parseMethodDescriptor yX6_forGood.desc).map (fun d => d.parameters.length) = some 1 := by decide +kernel
set_option maxHeartbeats 4000000 in
set_option maxRecDepth 100000 in
theorem mt_X6_forGood (l : Launch) {Z : ZW} (hZ : isM Z) (σ : SS) (sz : Nat) (x1 : Int32) (K : SS → Int32 → Prop) (h : wp_X6_forGood σ x1 K) : mtZ l yX6_forGood wsX6_forGood (rm9 6 144) Z [.ref (zq Z 100), .int x1] σ sz (qcI Z K sz) := by
  refine Met.ofW (cc := cX6_forGood) (maxL := 2) (ret := (some .int)) (by decide) rfl ?_
  intro p e s m args below meth c s₁ B hml hv
  obtain ⟨hargs, hsz, hP, hE1, hE2, hE3⟩ := hv
  subst hsz
  have hE : envZ Z s := ⟨hE1, hE2, hE3⟩
  have hx := B.exec
  have hb := B.bytes
  have hr := B.returns
  have hlocks := B.notSynchronized
  have hts := atoms_spec (ws := wsX6_forGood) B.pre
  have hown : s.vm.findClass RX6 = some m.cls := findClass_of_methodNamed B.named
  have hS : SZ Z s s.heap [] := va_S.rf
  obtain ⟨ls, hef, hl⟩ := z_entry m hargs (n := 2) (Nat.le_of_ble_eq_true rfl)
  rw [hef]
  have hl : lv_has ls 2 [(0, .ref (zq Z 100)), (1, .int x1)] := hl
  have in6 : ∀ w ∈ u_ws RX6 TX6 28, w ∈ wsX6_forGood := by decide +kernel
  have lk107 := hts (.fieldLink RX6 107 "BeatDoubtsModel" "newsMany" "I") (by decide +kernel)
  have lk41 := hts (.fieldLink RX6 41 "BeatDoubtsModel" "begins" "[I") (by decide +kernel)
  unfold wp_X6_forGood at h
  refine lv_aload_n hx hb dX6_forGood_0 rfl (lv_at hl 0 rfl) ?_
  refine lv_iload_n hx hb dX6_forGood_1 rfl (lv_at hl 1 rfl) ?_
  refine zc_VV (As := [.int x1]) (rest := []) ⟨hx, hb, hml, hown, hts⟩ (cwV 1 hts gX6_forGood_X6_goesAs rfl rfl rfl hd_X6_goesAs ⟨Nat.le_of_ble_eq_true rfl, Nat.le_of_ble_eq_true rfl⟩) (mt_X6_goesAs l hZ σ _ x1 _ h) (rc_6 hZ hE hP kd100) hE hP hS rfl hl.1 rfl (Nat.le_of_ble_eq_true rfl) dX6_forGood_2 ⟨Nat.zero_le _, Nat.zero_le _⟩ (fun σ2 H locs h hP hS => ?_)
  refine lv_aload_n hx hb dX6_forGood_5 rfl (lv_at hl 0 rfl) ?_
  refine fg_6_7 hZ hx hb hts in6 hown hE hP kd100 lk107 dX6_forGood_6 ?_
  refine lv_if_ne (tgt := 16) hx hb dX6_forGood_9 (by decide) (fun hc => ?_) (fun hc => ?_)
  · have h := h.1 hc
    refine lv_aload_n hx hb dX6_forGood_16 rfl (lv_at hl 0 rfl) ?_
    refine fg_6_13 hZ hx hb hts in6 hown hE hP kd100 lk41 dX6_forGood_17 ?_
    refine lv_aload_n hx hb dX6_forGood_20 rfl (lv_at hl 0 rfl) ?_
    refine fg_6_7 hZ hx hb hts in6 hown hE hP kd100 lk107 dX6_forGood_21 ?_
    refine lv_iconst (v := 1) hx hb dX6_forGood_24 (by decide) ?_
    refine lv_isub hx hb dX6_forGood_25 ?_
    obtain ⟨hin, h⟩ := h
    refine al_20 hZ hx hb hE hP kr_6_13 hin dX6_forGood_26 ?_
    exact zr_I hx hb hr hlocks hP hS h dX6_forGood_27
  · have h := h.2 hc
    refine lv_iconst (v := (-1)) hx hb dX6_forGood_12 (by decide) ?_
    refine lv_goto (tgt := 27) hx hb dX6_forGood_13 (by decide) ?_
    exact zr_I hx hb hr hlocks hP hS h dX6_forGood_27
theorem hd_X6_infoOf : yX6_infoOf.cls = RX6 ∧ yX6_infoOf.cls ≠ "java/lang/invoke/MethodHandle" ∧ yX6_infoOf.cls ≠ "java/lang/invoke/VarHandle" ∧ (parseMethodDescriptor yX6_infoOf.desc).map (fun d => d.parameters.length) = some 2 := by decide +kernel
set_option maxHeartbeats 4000000 in
set_option maxRecDepth 100000 in
theorem mt_X6_infoOf (l : Launch) {Z : ZW} (hZ : isM Z) (σ : SS) (sz : Nat) (x1 : Int32) (x2 : Int32) (K : SS → Int32 → Prop) (h : wp_X6_infoOf σ x1 x2 K) : mtZ l yX6_infoOf wsX6_infoOf (rm9 7 165) Z [.ref (zq Z 100), .int x1, .int x2] σ sz (qcI Z K sz) := by
  refine Met.ofW (cc := cX6_infoOf) (maxL := 3) (ret := (some .int)) (by decide) rfl ?_
  intro p e s m args below meth c s₁ B hml hv
  obtain ⟨hargs, hsz, hP, hE1, hE2, hE3⟩ := hv
  subst hsz
  have hE : envZ Z s := ⟨hE1, hE2, hE3⟩
  have hx := B.exec
  have hb := B.bytes
  have hr := B.returns
  have hlocks := B.notSynchronized
  have hts := atoms_spec (ws := wsX6_infoOf) B.pre
  have hown : s.vm.findClass RX6 = some m.cls := findClass_of_methodNamed B.named
  have hS : SZ Z s s.heap [] := va_S.rf
  obtain ⟨ls, hef, hl⟩ := z_entry m hargs (n := 3) (Nat.le_of_ble_eq_true rfl)
  rw [hef]
  have hl : lv_has ls 3 [(0, .ref (zq Z 100)), (1, .int x1), (2, .int x2)] := hl
  have in6 : ∀ w ∈ u_ws RX6 TX6 28, w ∈ wsX6_infoOf := by decide +kernel
  have lk169 := hts (.fieldLink RX6 169 "BeatDoubtsModel" "mistakes" "I") (by decide +kernel)
  have lk172 := hts (.fieldLink RX6 172 "BeatDoubtsModel" "mistakenAll" "I") (by decide +kernel)
  have lk175 := hts (.fieldLink RX6 175 "BeatDoubtsModel" "mistakenMost" "I") (by decide +kernel)
  have lk178 := hts (.fieldLink RX6 178 "BeatDoubtsModel" "lag" "I") (by decide +kernel)
  have lk29 := hts (.fieldLink RX6 29 "BeatDoubtsModel" "sorts" "[I") (by decide +kernel)
  have lk32 := hts (.fieldLink RX6 32 "BeatDoubtsModel" "measures" "[I") (by decide +kernel)
  have lk35 := hts (.fieldLink RX6 35 "BeatDoubtsModel" "notices" "[I") (by decide +kernel)
  have lk38 := hts (.fieldLink RX6 38 "BeatDoubtsModel" "fews" "[I") (by decide +kernel)
  unfold wp_X6_infoOf at h
  refine lv_aload_n hx hb dX6_infoOf_0 rfl (lv_at hl 0 rfl) ?_
  refine lv_iload_n hx hb dX6_infoOf_1 rfl (lv_at hl 1 rfl) ?_
  refine zc_VV (As := [.int x1]) (rest := []) ⟨hx, hb, hml, hown, hts⟩ (cwV 1 hts gX6_infoOf_X6_goesAs rfl rfl rfl hd_X6_goesAs ⟨Nat.le_of_ble_eq_true rfl, Nat.le_of_ble_eq_true rfl⟩) (mt_X6_goesAs l hZ σ _ x1 _ h) (rc_6 hZ hE hP kd100) hE hP hS rfl hl.1 rfl (Nat.le_of_ble_eq_true rfl) dX6_infoOf_2 ⟨Nat.zero_le _, Nat.zero_le _⟩ (fun σ2 H locs h hP hS => ?_)
  refine lv_iload_n hx hb dX6_infoOf_5 rfl (lv_at hl 2 rfl) ?_
  by_cases hc0 : x2 = 0
  · have h := h.1 hc0
    refine lv_tableIn (tgt := 56) hx hb dX6_infoOf_6 (by rw [hc0] <;> decide) (by rw [hc0] <;> decide) (by rw [hc0] <;> rfl) (by decide) ?_
    refine lv_aload_n hx hb dX6_infoOf_56 rfl (lv_at hl 0 rfl) ?_
    refine fg_6_8 hZ hx hb hts in6 hown hE hP kd100 lk29 dX6_infoOf_57 ?_
    refine lv_iload_n hx hb dX6_infoOf_60 rfl (lv_at hl 1 rfl) ?_
    obtain ⟨hin, h⟩ := h
    refine al_21 hZ hx hb hE hP kr_6_8 hin dX6_infoOf_61 ?_
    exact zr_I hx hb hr hlocks hP hS h dX6_infoOf_62
  by_cases hc1 : x2 = 1
  · have h := h.2.1 hc1
    refine lv_tableIn (tgt := 63) hx hb dX6_infoOf_6 (by rw [hc1] <;> decide) (by rw [hc1] <;> decide) (by rw [hc1] <;> rfl) (by decide) ?_
    refine lv_aload_n hx hb dX6_infoOf_63 rfl (lv_at hl 0 rfl) ?_
    refine fg_6_9 hZ hx hb hts in6 hown hE hP kd100 lk32 dX6_infoOf_64 ?_
    refine lv_iload_n hx hb dX6_infoOf_67 rfl (lv_at hl 1 rfl) ?_
    obtain ⟨hin, h⟩ := h
    refine al_21 hZ hx hb hE hP kr_6_9 hin dX6_infoOf_68 ?_
    exact zr_I hx hb hr hlocks hP hS h dX6_infoOf_69
  by_cases hc2 : x2 = 2
  · have h := h.2.2.1 hc2
    refine lv_tableIn (tgt := 70) hx hb dX6_infoOf_6 (by rw [hc2] <;> decide) (by rw [hc2] <;> decide) (by rw [hc2] <;> rfl) (by decide) ?_
    refine lv_aload_n hx hb dX6_infoOf_70 rfl (lv_at hl 0 rfl) ?_
    refine fg_6_10 hZ hx hb hts in6 hown hE hP kd100 lk35 dX6_infoOf_71 ?_
    refine lv_iload_n hx hb dX6_infoOf_74 rfl (lv_at hl 1 rfl) ?_
    obtain ⟨hin, h⟩ := h
    refine al_21 hZ hx hb hE hP kr_6_10 hin dX6_infoOf_75 ?_
    exact zr_I hx hb hr hlocks hP hS h dX6_infoOf_76
  by_cases hc3 : x2 = 3
  · have h := h.2.2.2.1 hc3
    refine lv_tableIn (tgt := 77) hx hb dX6_infoOf_6 (by rw [hc3] <;> decide) (by rw [hc3] <;> decide) (by rw [hc3] <;> rfl) (by decide) ?_
    refine lv_aload_n hx hb dX6_infoOf_77 rfl (lv_at hl 0 rfl) ?_
    refine fg_6_11 hZ hx hb hts in6 hown hE hP kd100 lk38 dX6_infoOf_78 ?_
    refine lv_iload_n hx hb dX6_infoOf_81 rfl (lv_at hl 1 rfl) ?_
    obtain ⟨hin, h⟩ := h
    refine al_21 hZ hx hb hE hP kr_6_11 hin dX6_infoOf_82 ?_
    exact zr_I hx hb hr hlocks hP hS h dX6_infoOf_83
  by_cases hc4 : x2 = 4
  · have h := h.2.2.2.2.1 hc4
    refine lv_tableIn (tgt := 84) hx hb dX6_infoOf_6 (by rw [hc4] <;> decide) (by rw [hc4] <;> decide) (by rw [hc4] <;> rfl) (by decide) ?_
    refine lv_aload_n hx hb dX6_infoOf_84 rfl (lv_at hl 0 rfl) ?_
    refine fg_6_15 hZ hx hb hts in6 hown hE hP kd100 lk169 dX6_infoOf_85 ?_
    exact zr_I hx hb hr hlocks hP hS h dX6_infoOf_88
  by_cases hc5 : x2 = 5
  · have h := h.2.2.2.2.2.1 hc5
    refine lv_tableIn (tgt := 89) hx hb dX6_infoOf_6 (by rw [hc5] <;> decide) (by rw [hc5] <;> decide) (by rw [hc5] <;> rfl) (by decide) ?_
    refine lv_aload_n hx hb dX6_infoOf_89 rfl (lv_at hl 0 rfl) ?_
    refine fg_6_16 hZ hx hb hts in6 hown hE hP kd100 lk172 dX6_infoOf_90 ?_
    exact zr_I hx hb hr hlocks hP hS h dX6_infoOf_93
  by_cases hc6 : x2 = 6
  · have h := h.2.2.2.2.2.2.1 hc6
    refine lv_tableIn (tgt := 94) hx hb dX6_infoOf_6 (by rw [hc6] <;> decide) (by rw [hc6] <;> decide) (by rw [hc6] <;> rfl) (by decide) ?_
    refine lv_aload_n hx hb dX6_infoOf_94 rfl (lv_at hl 0 rfl) ?_
    refine fg_6_17 hZ hx hb hts in6 hown hE hP kd100 lk175 dX6_infoOf_95 ?_
    exact zr_I hx hb hr hlocks hP hS h dX6_infoOf_98
  by_cases hc7 : x2 = 7
  · have h := h.2.2.2.2.2.2.2.1 hc7
    refine lv_tableIn (tgt := 99) hx hb dX6_infoOf_6 (by rw [hc7] <;> decide) (by rw [hc7] <;> decide) (by rw [hc7] <;> rfl) (by decide) ?_
    refine lv_aload_n hx hb dX6_infoOf_99 rfl (lv_at hl 0 rfl) ?_
    refine fg_6_18 hZ hx hb hts in6 hown hE hP kd100 lk178 dX6_infoOf_100 ?_
    exact zr_I hx hb hr hlocks hP hS h dX6_infoOf_103
  by_cases hc8 : x2 = 8
  · have h := h.2.2.2.2.2.2.2.2.1 hc8
    refine lv_tableIn (tgt := 104) hx hb dX6_infoOf_6 (by rw [hc8] <;> decide) (by rw [hc8] <;> decide) (by rw [hc8] <;> rfl) (by decide) ?_
    refine lv_aload_n hx hb dX6_infoOf_104 rfl (lv_at hl 0 rfl) ?_
    refine lv_iload_n hx hb dX6_infoOf_105 rfl (lv_at hl 1 rfl) ?_
    refine zc_VI (As := [.int x1]) (rest := []) ⟨hx, hb, hml, hown, hts⟩ (cwV 1 hts gX6_infoOf_X6_isKept rfl rfl rfl hd_X6_isKept ⟨Nat.le_of_ble_eq_true rfl, Nat.le_of_ble_eq_true rfl⟩) (mt_X6_isKept l hZ σ2 _ x1 _ h) (rc_6 hZ hE hP kd100) hE hP hS rfl hl.1 rfl (Nat.le_of_ble_eq_true rfl) dX6_infoOf_106 ⟨Nat.zero_le _, Nat.zero_le _⟩ (fun r106 σ106 H locs h hP hS => ?_)
    refine lv_if_eq (tgt := 116) hx hb dX6_infoOf_109 (by decide) (fun hc => ?_) (fun hc => ?_)
    · have h := h.1 hc
      refine lv_iconst (v := 0) hx hb dX6_infoOf_116 (by decide) ?_
      exact zr_I hx hb hr hlocks hP hS h dX6_infoOf_117
    · have h := h.2 hc
      refine lv_iconst (v := 1) hx hb dX6_infoOf_112 (by decide) ?_
      refine lv_goto (tgt := 117) hx hb dX6_infoOf_113 (by decide) ?_
      exact zr_I hx hb hr hlocks hP hS h dX6_infoOf_117
  have h := h.2.2.2.2.2.2.2.2.2 hc0 hc1 hc2 hc3 hc4 hc5 hc6 hc7 hc8
  refine lv_tableOut (tgt := 118) hx hb dX6_infoOf_6 (tsw9 hc0 hc1 hc2 hc3 hc4 hc5 hc6 hc7 hc8) (by decide) ?_
  refine lv_aload_n hx hb dX6_infoOf_118 rfl (lv_at hl 0 rfl) ?_
  refine lv_iload_n hx hb dX6_infoOf_119 rfl (lv_at hl 1 rfl) ?_
  refine zc_VI (As := [.int x1]) (rest := []) ⟨hx, hb, hml, hown, hts⟩ (cwV 1 hts gX6_infoOf_X6_forGood rfl rfl rfl hd_X6_forGood ⟨Nat.le_of_ble_eq_true rfl, Nat.le_of_ble_eq_true rfl⟩) (mt_X6_forGood l hZ σ2 _ x1 _ h) (rc_6 hZ hE hP kd100) hE hP hS rfl hl.1 rfl (Nat.le_of_ble_eq_true rfl) dX6_infoOf_120 ⟨Nat.zero_le _, Nat.zero_le _⟩ (fun r120 σ120 H locs h hP hS => ?_)
  exact zr_I hx hb hr hlocks hP hS h dX6_infoOf_123
theorem hd_X6_info : yX6_info.cls = RX6 ∧ yX6_info.cls ≠ "java/lang/invoke/MethodHandle" ∧ yX6_info.cls ≠ "java/lang/invoke/VarHandle" ∧ (parseMethodDescriptor yX6_info.desc).map (fun d => d.parameters.length) = some 2 := by decide +kernel
set_option maxHeartbeats 4000000 in
set_option maxRecDepth 100000 in
theorem mt_X6_info (l : Launch) {Z : ZW} (hZ : isM Z) (σ : SS) (sz : Nat) (x1 : Int32) (x2 : Int32) (K : SS → Int32 → Prop) (h : wp_X6_info σ x1 x2 K) : mtZ l yX6_info wsX6_info (rm9 8 187) Z [.ref (zq Z 100), .int x1, .int x2] σ sz (qcI Z K sz) := by
  refine Met.ofW (cc := cX6_info) (maxL := 3) (ret := (some .int)) (by decide) rfl ?_
  intro p e s m args below meth c s₁ B hml hv
  obtain ⟨hargs, hsz, hP, hE1, hE2, hE3⟩ := hv
  subst hsz
  have hE : envZ Z s := ⟨hE1, hE2, hE3⟩
  have hx := B.exec
  have hb := B.bytes
  have hr := B.returns
  have hlocks := B.notSynchronized
  have hts := atoms_spec (ws := wsX6_info) B.pre
  have hown : s.vm.findClass RX6 = some m.cls := findClass_of_methodNamed B.named
  have hS : SZ Z s s.heap [] := va_S.rf
  obtain ⟨ls, hef, hl⟩ := z_entry m hargs (n := 3) (Nat.le_of_ble_eq_true rfl)
  rw [hef]
  have hl : lv_has ls 3 [(0, .ref (zq Z 100)), (1, .int x1), (2, .int x2)] := hl
  unfold wp_X6_info at h
  refine lv_aload_n hx hb dX6_info_0 rfl (lv_at hl 0 rfl) ?_
  refine lv_iload_n hx hb dX6_info_1 rfl (lv_at hl 1 rfl) ?_
  refine zc_VI (As := [.int x1]) (rest := []) ⟨hx, hb, hml, hown, hts⟩ (cwV 1 hts gX6_info_X6_isWatcher rfl rfl rfl hd_X6_isWatcher ⟨Nat.le_of_ble_eq_true rfl, Nat.le_of_ble_eq_true rfl⟩) (mt_X6_isWatcher l hZ σ _ x1 _ h) (rc_6 hZ hE hP kd100) hE hP hS rfl hl.1 rfl (Nat.le_of_ble_eq_true rfl) dX6_info_2 ⟨Nat.zero_le _, Nat.zero_le _⟩ (fun r2 σ2 H locs h hP hS => ?_)
  refine lv_if_eq (tgt := 27) hx hb dX6_info_5 (by decide) (fun hc => ?_) (fun hc => ?_)
  · have h := h.1 hc
    refine lv_bipush (v := (-2)) hx hb dX6_info_27 (by decide) ?_
    exact zr_I hx hb hr hlocks hP hS h dX6_info_29
  · have h := h.2 hc
    refine lv_iload_n hx hb dX6_info_8 rfl (lv_at hl 2 rfl) ?_
    refine lv_iconst (v := 0) hx hb dX6_info_9 (by decide) ?_
    refine lv_bipush (v := 9) hx hb dX6_info_10 (by decide) ?_
    refine zc_SI (As := [.int x2, .int 0, .int 9]) (rest := []) ⟨hx, hb, hml, hown, hts⟩ (va_cwS 3 hts gX6_info_X6_in rfl rfl rfl hd_X6_in ⟨Nat.le_of_ble_eq_true rfl, Nat.le_of_ble_eq_true rfl⟩) (mt_X6_in l hZ σ2 _ x2 0 9 _ h) hE hP hS rfl hl.1 rfl (Nat.le_of_ble_eq_true rfl) dX6_info_12 ⟨Nat.zero_le _, Nat.zero_le _⟩ (fun r12 σ12 H locs h hP hS => ?_)
    refine lv_if_eq (tgt := 27) hx hb dX6_info_15 (by decide) (fun hc => ?_) (fun hc => ?_)
    · have h := h.1 hc
      refine lv_bipush (v := (-2)) hx hb dX6_info_27 (by decide) ?_
      exact zr_I hx hb hr hlocks hP hS h dX6_info_29
    · have h := h.2 hc
      refine lv_aload_n hx hb dX6_info_18 rfl (lv_at hl 0 rfl) ?_
      refine lv_iload_n hx hb dX6_info_19 rfl (lv_at hl 1 rfl) ?_
      refine lv_iload_n hx hb dX6_info_20 rfl (lv_at hl 2 rfl) ?_
      refine zc_VI (As := [.int x1, .int x2]) (rest := []) ⟨hx, hb, hml, hown, hts⟩ (cwV 2 hts gX6_info_X6_infoOf rfl rfl rfl hd_X6_infoOf ⟨Nat.le_of_ble_eq_true rfl, Nat.le_of_ble_eq_true rfl⟩) (mt_X6_infoOf l hZ σ12 _ x1 x2 _ h) (rc_6 hZ hE hP kd100) hE hP hS rfl hl.1 rfl (Nat.le_of_ble_eq_true rfl) dX6_info_21 ⟨Nat.zero_le _, Nat.zero_le _⟩ (fun r21 σ21 H locs h hP hS => ?_)
      refine lv_goto (tgt := 29) hx hb dX6_info_24 (by decide) ?_
      exact zr_I hx hb hr hlocks hP hS h dX6_info_29
theorem hd_X6_ledgerOf : yX6_ledgerOf.cls = RX6 ∧ yX6_ledgerOf.cls ≠ "java/lang/invoke/MethodHandle" ∧ yX6_ledgerOf.cls ≠ "java/lang/invoke/VarHandle" ∧ (parseMethodDescriptor yX6_ledgerOf.desc).map (fun d => d.parameters.length) = some 3 := by decide +kernel
set_option maxHeartbeats 4000000 in
set_option maxRecDepth 100000 in
theorem mt_X6_ledgerOf (l : Launch) {Z : ZW} (hZ : isM Z) (σ : SS) (sz : Nat) (x1 : Int32) (x2 : Int32) (x3 : Int32) (K : SS → Int32 → Prop) (h : wp_X6_ledgerOf σ x1 x2 x3 K) : mtZ l yX6_ledgerOf wsX6_ledgerOf (rm9 6 144) Z [.ref (zq Z 100), .int x1, .int x2, .int x3] σ sz (qcI Z K sz) := by
  refine Met.ofW (cc := cX6_ledgerOf) (maxL := 8) (ret := (some .int)) (by decide) rfl ?_
  intro p e s m args below meth c s₁ B hml hv
  obtain ⟨hargs, hsz, hP, hE1, hE2, hE3⟩ := hv
  subst hsz
  have hE : envZ Z s := ⟨hE1, hE2, hE3⟩
  have hx := B.exec
  have hb := B.bytes
  have hr := B.returns
  have hlocks := B.notSynchronized
  have hts := atoms_spec (ws := wsX6_ledgerOf) B.pre
  have hown : s.vm.findClass RX6 = some m.cls := findClass_of_methodNamed B.named
  have hS : SZ Z s s.heap [] := va_S.rf
  obtain ⟨ls, hef, hl⟩ := z_entry m hargs (n := 8) (Nat.le_of_ble_eq_true rfl)
  rw [hef]
  have hl : lv_has ls 8 [(0, .ref (zq Z 100)), (1, .int x1), (2, .int x2), (3, .int x3)] := hl
  have in6 : ∀ w ∈ u_ws RX6 TX6 28, w ∈ wsX6_ledgerOf := by decide +kernel
  have lk107 := hts (.fieldLink RX6 107 "BeatDoubtsModel" "newsMany" "I") (by decide +kernel)
  have lk26 := hts (.fieldLink RX6 26 "BeatDoubtsModel" "newsTimes" "[I") (by decide +kernel)
  have lk41 := hts (.fieldLink RX6 41 "BeatDoubtsModel" "begins" "[I") (by decide +kernel)
  have lk44 := hts (.fieldLink RX6 44 "BeatDoubtsModel" "isMistake" "[Z") (by decide +kernel)
  have B15 : ∀ (n : Nat) (σ : SS) (x3 : Int32) (x4 : Int32) (x5 : Int32) (x6 : Int32) (H : Heap) (locs : List Loc) (ls : Array Slot), fx5 (lb_X6_ledgerOf_15 K) n σ x3 x4 x5 x6 → PZ Z σ H → SZ Z s H locs → lv_has ls 8 [(0, .ref (zq Z 100)), (3, .int x3), (4, .int x4), (5, .int x5), (6, .int x6)] → W p l e (headSpec wsX6_ledgerOf (rm9 6 144)).room s m args below meth c H locs 0 0 (MQ below (qcI Z K s.heap.size) args s 0 0 (aZ Z s.heap.size)) (F0 m 15 ls []) := by
    intro n15
    induction n15 with
    | zero => intro σ x3 x4 x5 x6 H locs ls h; exact h.elim
    | succ n15 ih15 =>
      have B89 : ∀ (σ : SS) (x3 : Int32) (x4 : Int32) (x6 : Int32) (k0 : Int32) (H : Heap) (locs : List Loc) (ls : Array Slot), bl_X6_ledgerOf_89 K (fx5 (lb_X6_ledgerOf_15 K) n15) σ x3 x4 x6 k0 → PZ Z σ H → SZ Z s H locs → lv_has ls 8 [(0, .ref (zq Z 100)), (3, .int x3), (4, .int x4), (6, .int x6)] → W p l e (headSpec wsX6_ledgerOf (rm9 6 144)).room s m args below meth c H locs 0 0 (MQ below (qcI Z K s.heap.size) args s 0 0 (aZ Z s.heap.size)) (F0 m 89 ls [.int k0]) := by
        intro σ x3 x4 x6 k0 H locs ls h hP hS hl
        unfold bl_X6_ledgerOf_89 at h
        refine lv_istore (lv' := [(5, .int k0), (0, .ref (zq Z 100)), (3, .int x3), (4, .int x4), (6, .int x6)]) hx hb dX6_ledgerOf_89 hl (by decide) rfl (fun ls hl => ?_)
        refine lv_iload hx hb dX6_ledgerOf_91 (lv_at hl 3 rfl) ?_
        refine lv_aload_n hx hb dX6_ledgerOf_93 rfl (lv_at hl 1 rfl) ?_
        refine fg_6_14 hZ hx hb hts in6 hown hE hP kd100 lk44 dX6_ledgerOf_94 ?_
        refine lv_iload hx hb dX6_ledgerOf_97 (lv_at hl 4 rfl) ?_
        obtain ⟨hin, h⟩ := h
        refine al_23 hZ hx hb hE hP kr_6_14 hin dX6_ledgerOf_99 ?_
        refine lv_if_eq (tgt := 107) hx hb dX6_ledgerOf_100 (by decide) (fun hc => ?_) (fun hc => ?_)
        · have h := h.1 hc
          refine lv_iconst (v := 0) hx hb dX6_ledgerOf_107 (by decide) ?_
          refine lv_isub hx hb dX6_ledgerOf_108 ?_
          refine lv_istore (lv' := [(4, .int (x4 - 0)), (5, .int k0), (0, .ref (zq Z 100)), (3, .int x3), (6, .int x6)]) hx hb dX6_ledgerOf_109 hl (by decide) rfl (fun ls hl => ?_)
          refine lv_iinc (v := (x6 + 1)) (lv' := [(6, .int (x6 + 1)), (4, .int (x4 - 0)), (5, .int k0), (0, .ref (zq Z 100)), (3, .int x3)]) hx hb dX6_ledgerOf_111 hl (k := 4) rfl rfl (by decide) rfl (fun ls hl => ?_)
          refine lv_goto (tgt := 15) hx hb dX6_ledgerOf_114 (by decide) ?_
          exact ih15 σ x3 (x4 - 0) k0 (x6 + 1) _ _ _ h hP hS (lv_sub hl [3, 4, 1, 2, 0] rfl)
        · have h := h.2 hc
          refine lv_iconst (v := 1) hx hb dX6_ledgerOf_103 (by decide) ?_
          refine lv_goto (tgt := 108) hx hb dX6_ledgerOf_104 (by decide) ?_
          refine lv_isub hx hb dX6_ledgerOf_108 ?_
          refine lv_istore (lv' := [(4, .int (x4 - 1)), (5, .int k0), (0, .ref (zq Z 100)), (3, .int x3), (6, .int x6)]) hx hb dX6_ledgerOf_109 hl (by decide) rfl (fun ls hl => ?_)
          refine lv_iinc (v := (x6 + 1)) (lv' := [(6, .int (x6 + 1)), (4, .int (x4 - 1)), (5, .int k0), (0, .ref (zq Z 100)), (3, .int x3)]) hx hb dX6_ledgerOf_111 hl (k := 4) rfl rfl (by decide) rfl (fun ls hl => ?_)
          refine lv_goto (tgt := 15) hx hb dX6_ledgerOf_114 (by decide) ?_
          exact ih15 σ x3 (x4 - 1) k0 (x6 + 1) _ _ _ h hP hS (lv_sub hl [3, 4, 1, 2, 0] rfl)
      have B44 : ∀ (σ : SS) (x3 : Int32) (x4 : Int32) (x5 : Int32) (x6 : Int32) (k0 : Int32) (H : Heap) (locs : List Loc) (ls : Array Slot), bl_X6_ledgerOf_44 K (fx5 (lb_X6_ledgerOf_15 K) n15) σ x3 x4 x5 x6 k0 → PZ Z σ H → SZ Z s H locs → lv_has ls 8 [(0, .ref (zq Z 100)), (3, .int x3), (4, .int x4), (5, .int x5), (6, .int x6)] → W p l e (headSpec wsX6_ledgerOf (rm9 6 144)).room s m args below meth c H locs 0 0 (MQ below (qcI Z K s.heap.size) args s 0 0 (aZ Z s.heap.size)) (F0 m 44 ls [.int k0]) := by
        intro σ x3 x4 x5 x6 k0 H locs ls h hP hS hl
        unfold bl_X6_ledgerOf_44 at h
        refine lv_istore (lv' := [(7, .int k0), (0, .ref (zq Z 100)), (3, .int x3), (4, .int x4), (5, .int x5), (6, .int x6)]) hx hb dX6_ledgerOf_44 hl (by decide) rfl (fun ls hl => ?_)
        refine lv_iload hx hb dX6_ledgerOf_46 (lv_at hl 0 rfl) ?_
        refine lv_if_eq (tgt := 87) hx hb dX6_ledgerOf_48 (by decide) (fun hc => ?_) (fun hc => ?_)
        · have h := h.1 hc
          refine lv_iload hx hb dX6_ledgerOf_87 (lv_at hl 4 rfl) ?_
          exact B89 σ x3 x4 x6 x5 _ _ _ h hP hS (lv_sub hl [1, 2, 3, 5] rfl)
        · have h := h.2 hc
          refine lv_iload_n hx hb dX6_ledgerOf_51 rfl (lv_at hl 2 rfl) ?_
          refine lv_if_ne (tgt := 65) hx hb dX6_ledgerOf_52 (by decide) (fun hc => ?_) (fun hc => ?_)
          · have h := h.1 hc
            refine lv_iload_n hx hb dX6_ledgerOf_65 rfl (lv_at hl 2 rfl) ?_
            refine lv_iconst (v := 1) hx hb dX6_ledgerOf_66 (by decide) ?_
            refine lv_icmp_ne (tgt := 82) hx hb dX6_ledgerOf_67 (by decide) (fun hc => ?_) (fun hc => ?_)
            · have h := h.1 hc
              refine lv_iload hx hb dX6_ledgerOf_82 (lv_at hl 5 rfl) ?_
              refine lv_goto (tgt := 89) hx hb dX6_ledgerOf_84 (by decide) ?_
              exact B89 σ x3 x4 x6 x6 _ _ _ h hP hS (lv_sub hl [1, 2, 3, 5] rfl)
            · have h := h.2 hc
              refine lv_aload_n hx hb dX6_ledgerOf_70 rfl (lv_at hl 1 rfl) ?_
              refine fg_6_6 hZ hx hb hts in6 hown hE hP kd100 lk26 dX6_ledgerOf_71 ?_
              refine lv_iload hx hb dX6_ledgerOf_74 (lv_at hl 5 rfl) ?_
              refine lv_iconst (v := 1) hx hb dX6_ledgerOf_76 (by decide) ?_
              refine lv_iadd hx hb dX6_ledgerOf_77 ?_
              obtain ⟨hin, h⟩ := h
              refine al_20 hZ hx hb hE hP kr_6_6 hin dX6_ledgerOf_78 ?_
              refine lv_goto (tgt := 89) hx hb dX6_ledgerOf_79 (by decide) ?_
              exact B89 σ x3 x4 x6 (gA σ 103 (x6 + 1).toNatClampNeg) _ _ _ h hP hS (lv_sub hl [1, 2, 3, 5] rfl)
          · have h := h.2 hc
            refine lv_aload_n hx hb dX6_ledgerOf_55 rfl (lv_at hl 1 rfl) ?_
            refine fg_6_13 hZ hx hb hts in6 hown hE hP kd100 lk41 dX6_ledgerOf_56 ?_
            refine lv_iload hx hb dX6_ledgerOf_59 (lv_at hl 5 rfl) ?_
            obtain ⟨hin, h⟩ := h
            refine al_20 hZ hx hb hE hP kr_6_13 hin dX6_ledgerOf_61 ?_
            refine lv_goto (tgt := 89) hx hb dX6_ledgerOf_62 (by decide) ?_
            exact B89 σ x3 x4 x6 (gA σ 108 x6.toNatClampNeg) _ _ _ h hP hS (lv_sub hl [1, 2, 3, 5] rfl)
      intro σ x3 x4 x5 x6 H locs ls h hP hS hl
      have h : lb_X6_ledgerOf_15 K (fx5 (lb_X6_ledgerOf_15 K) n15) σ x3 x4 x5 x6 := h
      unfold lb_X6_ledgerOf_15 at h
      refine lv_iload hx hb dX6_ledgerOf_15 (lv_at hl 4 rfl) ?_
      refine lv_aload_n hx hb dX6_ledgerOf_17 rfl (lv_at hl 0 rfl) ?_
      refine fg_6_7 hZ hx hb hts in6 hown hE hP kd100 lk107 dX6_ledgerOf_18 ?_
      refine lv_icmp_ge (tgt := 117) hx hb dX6_ledgerOf_21 (by decide) (fun hc => ?_) (fun hc => ?_)
      · have h := h.1 hc
        refine lv_iload hx hb dX6_ledgerOf_117 (lv_at hl 3 rfl) ?_
        exact zr_I hx hb hr hlocks hP hS h dX6_ledgerOf_119
      · have h := h.2 hc
        refine lv_aload_n hx hb dX6_ledgerOf_24 rfl (lv_at hl 0 rfl) ?_
        refine fg_6_14 hZ hx hb hts in6 hown hE hP kd100 lk44 dX6_ledgerOf_25 ?_
        refine lv_iload hx hb dX6_ledgerOf_28 (lv_at hl 4 rfl) ?_
        obtain ⟨hin, h⟩ := h
        refine al_23 hZ hx hb hE hP kr_6_14 hin dX6_ledgerOf_30 ?_
        refine lv_if_eq (tgt := 43) hx hb dX6_ledgerOf_31 (by decide) (fun hc => ?_) (fun hc => ?_)
        · have h := h.1 hc
          refine lv_iconst (v := 0) hx hb dX6_ledgerOf_43 (by decide) ?_
          exact B44 σ x3 x4 x5 x6 0 _ _ _ h hP hS (lv_sub hl [0, 1, 2, 3, 4] rfl)
        · have h := h.2 hc
          refine lv_iload hx hb dX6_ledgerOf_34 (lv_at hl 2 rfl) ?_
          refine lv_if_ne (tgt := 43) hx hb dX6_ledgerOf_36 (by decide) (fun hc => ?_) (fun hc => ?_)
          · have h := h.1 hc
            refine lv_iconst (v := 0) hx hb dX6_ledgerOf_43 (by decide) ?_
            exact B44 σ x3 x4 x5 x6 0 _ _ _ h hP hS (lv_sub hl [0, 1, 2, 3, 4] rfl)
          · have h := h.2 hc
            refine lv_iconst (v := 1) hx hb dX6_ledgerOf_39 (by decide) ?_
            refine lv_goto (tgt := 44) hx hb dX6_ledgerOf_40 (by decide) ?_
            exact B44 σ x3 x4 x5 x6 1 _ _ _ h hP hS (lv_sub hl [0, 1, 2, 3, 4] rfl)
  unfold wp_X6_ledgerOf at h
  refine lv_aload_n hx hb dX6_ledgerOf_0 rfl (lv_at hl 0 rfl) ?_
  refine lv_iload_n hx hb dX6_ledgerOf_1 rfl (lv_at hl 1 rfl) ?_
  refine zc_VV (As := [.int x1]) (rest := []) ⟨hx, hb, hml, hown, hts⟩ (cwV 1 hts gX6_ledgerOf_X6_goesAs rfl rfl rfl hd_X6_goesAs ⟨Nat.le_of_ble_eq_true rfl, Nat.le_of_ble_eq_true rfl⟩) (mt_X6_goesAs l hZ σ _ x1 _ h) (rc_6 hZ hE hP kd100) hE hP hS rfl hl.1 rfl (Nat.le_of_ble_eq_true rfl) dX6_ledgerOf_2 ⟨Nat.zero_le _, Nat.zero_le _⟩ (fun σ2 H locs h hP hS => ?_)
  refine lv_iload_n hx hb dX6_ledgerOf_5 rfl (lv_at hl 2 rfl) ?_
  refine lv_istore (lv' := [(4, .int x2), (0, .ref (zq Z 100)), (1, .int x1), (2, .int x2), (3, .int x3)]) hx hb dX6_ledgerOf_6 hl (by decide) rfl (fun ls hl => ?_)
  refine lv_bipush (v := (-2)) hx hb dX6_ledgerOf_8 (by decide) ?_
  refine lv_istore (lv' := [(5, .int (-2)), (4, .int x2), (0, .ref (zq Z 100)), (1, .int x1), (2, .int x2), (3, .int x3)]) hx hb dX6_ledgerOf_10 hl (by decide) rfl (fun ls hl => ?_)
  refine lv_iconst (v := 0) hx hb dX6_ledgerOf_12 (by decide) ?_
  refine lv_istore (lv' := [(6, .int 0), (5, .int (-2)), (4, .int x2), (0, .ref (zq Z 100)), (1, .int x1), (2, .int x2), (3, .int x3)]) hx hb dX6_ledgerOf_13 hl (by decide) rfl (fun ls hl => ?_)
  obtain ⟨n, h⟩ := h
  exact B15 n σ2 x3 x2 (-2) 0 _ _ _ h hP hS (lv_sub hl [3, 6, 2, 1, 0] rfl)
theorem hd_X6_ledger : yX6_ledger.cls = RX6 ∧ yX6_ledger.cls ≠ "java/lang/invoke/MethodHandle" ∧ yX6_ledger.cls ≠ "java/lang/invoke/VarHandle" ∧ (parseMethodDescriptor yX6_ledger.desc).map (fun d => d.parameters.length) = some 3 := by decide +kernel
set_option maxHeartbeats 4000000 in
set_option maxRecDepth 100000 in
theorem mt_X6_ledger (l : Launch) {Z : ZW} (hZ : isM Z) (σ : SS) (sz : Nat) (x1 : Int32) (x2 : Int32) (x3 : Int32) (K : SS → Int32 → Prop) (h : wp_X6_ledger σ x1 x2 x3 K) : mtZ l yX6_ledger wsX6_ledger (rm9 7 171) Z [.ref (zq Z 100), .int x1, .int x2, .int x3] σ sz (qcI Z K sz) := by
  refine Met.ofW (cc := cX6_ledger) (maxL := 4) (ret := (some .int)) (by decide) rfl ?_
  intro p e s m args below meth c s₁ B hml hv
  obtain ⟨hargs, hsz, hP, hE1, hE2, hE3⟩ := hv
  subst hsz
  have hE : envZ Z s := ⟨hE1, hE2, hE3⟩
  have hx := B.exec
  have hb := B.bytes
  have hr := B.returns
  have hlocks := B.notSynchronized
  have hts := atoms_spec (ws := wsX6_ledger) B.pre
  have hown : s.vm.findClass RX6 = some m.cls := findClass_of_methodNamed B.named
  have hS : SZ Z s s.heap [] := va_S.rf
  obtain ⟨ls, hef, hl⟩ := z_entry m hargs (n := 4) (Nat.le_of_ble_eq_true rfl)
  rw [hef]
  have hl : lv_has ls 4 [(0, .ref (zq Z 100)), (1, .int x1), (2, .int x2), (3, .int x3)] := hl
  unfold wp_X6_ledger at h
  refine lv_aload_n hx hb dX6_ledger_0 rfl (lv_at hl 0 rfl) ?_
  refine lv_iload_n hx hb dX6_ledger_1 rfl (lv_at hl 1 rfl) ?_
  refine zc_VI (As := [.int x1]) (rest := []) ⟨hx, hb, hml, hown, hts⟩ (cwV 1 hts gX6_ledger_X6_isWatcher rfl rfl rfl hd_X6_isWatcher ⟨Nat.le_of_ble_eq_true rfl, Nat.le_of_ble_eq_true rfl⟩) (mt_X6_isWatcher l hZ σ _ x1 _ h) (rc_6 hZ hE hP kd100) hE hP hS rfl hl.1 rfl (Nat.le_of_ble_eq_true rfl) dX6_ledger_2 ⟨Nat.zero_le _, Nat.zero_le _⟩ (fun r2 σ2 H locs h hP hS => ?_)
  refine lv_if_eq (tgt := 31) hx hb dX6_ledger_5 (by decide) (fun hc => ?_) (fun hc => ?_)
  · have h := h.1 hc
    refine lv_bipush (v := (-2)) hx hb dX6_ledger_31 (by decide) ?_
    exact zr_I hx hb hr hlocks hP hS h dX6_ledger_33
  · have h := h.2 hc
    refine lv_iload_n hx hb dX6_ledger_8 rfl (lv_at hl 2 rfl) ?_
    refine lv_if_lt (tgt := 31) hx hb dX6_ledger_9 (by decide) (fun hc => ?_) (fun hc => ?_)
    · have h := h.1 hc
      refine lv_bipush (v := (-2)) hx hb dX6_ledger_31 (by decide) ?_
      exact zr_I hx hb hr hlocks hP hS h dX6_ledger_33
    · have h := h.2 hc
      refine lv_iload_n hx hb dX6_ledger_12 rfl (lv_at hl 3 rfl) ?_
      refine lv_iconst (v := 0) hx hb dX6_ledger_13 (by decide) ?_
      refine lv_iconst (v := 2) hx hb dX6_ledger_14 (by decide) ?_
      refine zc_SI (As := [.int x3, .int 0, .int 2]) (rest := []) ⟨hx, hb, hml, hown, hts⟩ (va_cwS 3 hts gX6_ledger_X6_in rfl rfl rfl hd_X6_in ⟨Nat.le_of_ble_eq_true rfl, Nat.le_of_ble_eq_true rfl⟩) (mt_X6_in l hZ σ2 _ x3 0 2 _ h) hE hP hS rfl hl.1 rfl (Nat.le_of_ble_eq_true rfl) dX6_ledger_15 ⟨Nat.zero_le _, Nat.zero_le _⟩ (fun r15 σ15 H locs h hP hS => ?_)
      refine lv_if_eq (tgt := 31) hx hb dX6_ledger_18 (by decide) (fun hc => ?_) (fun hc => ?_)
      · have h := h.1 hc
        refine lv_bipush (v := (-2)) hx hb dX6_ledger_31 (by decide) ?_
        exact zr_I hx hb hr hlocks hP hS h dX6_ledger_33
      · have h := h.2 hc
        refine lv_aload_n hx hb dX6_ledger_21 rfl (lv_at hl 0 rfl) ?_
        refine lv_iload_n hx hb dX6_ledger_22 rfl (lv_at hl 1 rfl) ?_
        refine lv_iload_n hx hb dX6_ledger_23 rfl (lv_at hl 2 rfl) ?_
        refine lv_iload_n hx hb dX6_ledger_24 rfl (lv_at hl 3 rfl) ?_
        refine zc_VI (As := [.int x1, .int x2, .int x3]) (rest := []) ⟨hx, hb, hml, hown, hts⟩ (cwV 3 hts gX6_ledger_X6_ledgerOf rfl rfl rfl hd_X6_ledgerOf ⟨Nat.le_of_ble_eq_true rfl, Nat.le_of_ble_eq_true rfl⟩) (mt_X6_ledgerOf l hZ σ15 _ x1 x2 x3 _ h) (rc_6 hZ hE hP kd100) hE hP hS rfl hl.1 rfl (Nat.le_of_ble_eq_true rfl) dX6_ledger_25 ⟨Nat.zero_le _, Nat.zero_le _⟩ (fun r25 σ25 H locs h hP hS => ?_)
        refine lv_goto (tgt := 33) hx hb dX6_ledger_28 (by decide) ?_
        exact zr_I hx hb hr hlocks hP hS h dX6_ledger_33
theorem hd_X6_limitOf : yX6_limitOf.cls = RX6 ∧ yX6_limitOf.cls ≠ "java/lang/invoke/MethodHandle" ∧ yX6_limitOf.cls ≠ "java/lang/invoke/VarHandle" ∧ (parseMethodDescriptor yX6_limitOf.desc).map (fun d => d.parameters.length) = some 2 := by decide +kernel
set_option maxHeartbeats 4000000 in
set_option maxRecDepth 100000 in
theorem mt_X6_limitOf (l : Launch) {Z : ZW} (hZ : isM Z) (σ : SS) (sz : Nat) (x1 : Int32) (x2 : Int32) (K : SS → Int32 → Prop) (h : wp_X6_limitOf σ x1 x2 K) : mtZ l yX6_limitOf wsX6_limitOf (rm9 6 144) Z [.ref (zq Z 100), .int x1, .int x2] σ sz (qcI Z K sz) := by
  refine Met.ofW (cc := cX6_limitOf) (maxL := 3) (ret := (some .int)) (by decide) rfl ?_
  intro p e s m args below meth c s₁ B hml hv
  obtain ⟨hargs, hsz, hP, hE1, hE2, hE3⟩ := hv
  subst hsz
  have hE : envZ Z s := ⟨hE1, hE2, hE3⟩
  have hx := B.exec
  have hb := B.bytes
  have hr := B.returns
  have hlocks := B.notSynchronized
  have hts := atoms_spec (ws := wsX6_limitOf) B.pre
  have hown : s.vm.findClass RX6 = some m.cls := findClass_of_methodNamed B.named
  have hS : SZ Z s s.heap [] := va_S.rf
  obtain ⟨ls, hef, hl⟩ := z_entry m hargs (n := 3) (Nat.le_of_ble_eq_true rfl)
  rw [hef]
  have hl : lv_has ls 3 [(0, .ref (zq Z 100)), (1, .int x1), (2, .int x2)] := hl
  have in6 : ∀ w ∈ u_ws RX6 TX6 28, w ∈ wsX6_limitOf := by decide +kernel
  have lk41 := hts (.fieldLink RX6 41 "BeatDoubtsModel" "begins" "[I") (by decide +kernel)
  unfold wp_X6_limitOf at h
  refine lv_aload_n hx hb dX6_limitOf_0 rfl (lv_at hl 0 rfl) ?_
  refine lv_iload_n hx hb dX6_limitOf_1 rfl (lv_at hl 1 rfl) ?_
  refine zc_VV (As := [.int x1]) (rest := []) ⟨hx, hb, hml, hown, hts⟩ (cwV 1 hts gX6_limitOf_X6_goesAs rfl rfl rfl hd_X6_goesAs ⟨Nat.le_of_ble_eq_true rfl, Nat.le_of_ble_eq_true rfl⟩) (mt_X6_goesAs l hZ σ _ x1 _ h) (rc_6 hZ hE hP kd100) hE hP hS rfl hl.1 rfl (Nat.le_of_ble_eq_true rfl) dX6_limitOf_2 ⟨Nat.zero_le _, Nat.zero_le _⟩ (fun σ2 H locs h hP hS => ?_)
  refine lv_aload_n hx hb dX6_limitOf_5 rfl (lv_at hl 0 rfl) ?_
  refine fg_6_13 hZ hx hb hts in6 hown hE hP kd100 lk41 dX6_limitOf_6 ?_
  refine lv_iload_n hx hb dX6_limitOf_9 rfl (lv_at hl 2 rfl) ?_
  obtain ⟨hin, h⟩ := h
  refine al_20 hZ hx hb hE hP kr_6_13 hin dX6_limitOf_10 ?_
  exact zr_I hx hb hr hlocks hP hS h dX6_limitOf_11
theorem hd_X6_limit : yX6_limit.cls = RX6 ∧ yX6_limit.cls ≠ "java/lang/invoke/MethodHandle" ∧ yX6_limit.cls ≠ "java/lang/invoke/VarHandle" ∧ (parseMethodDescriptor yX6_limit.desc).map (fun d => d.parameters.length) = some 2 := by decide +kernel
set_option maxHeartbeats 4000000 in
set_option maxRecDepth 100000 in
theorem mt_X6_limit (l : Launch) {Z : ZW} (hZ : isM Z) (σ : SS) (sz : Nat) (x1 : Int32) (x2 : Int32) (K : SS → Int32 → Prop) (h : wp_X6_limit σ x1 x2 K) : mtZ l yX6_limit wsX6_limit (rm9 7 166) Z [.ref (zq Z 100), .int x1, .int x2] σ sz (qcI Z K sz) := by
  refine Met.ofW (cc := cX6_limit) (maxL := 3) (ret := (some .int)) (by decide) rfl ?_
  intro p e s m args below meth c s₁ B hml hv
  obtain ⟨hargs, hsz, hP, hE1, hE2, hE3⟩ := hv
  subst hsz
  have hE : envZ Z s := ⟨hE1, hE2, hE3⟩
  have hx := B.exec
  have hb := B.bytes
  have hr := B.returns
  have hlocks := B.notSynchronized
  have hts := atoms_spec (ws := wsX6_limit) B.pre
  have hown : s.vm.findClass RX6 = some m.cls := findClass_of_methodNamed B.named
  have hS : SZ Z s s.heap [] := va_S.rf
  obtain ⟨ls, hef, hl⟩ := z_entry m hargs (n := 3) (Nat.le_of_ble_eq_true rfl)
  rw [hef]
  have hl : lv_has ls 3 [(0, .ref (zq Z 100)), (1, .int x1), (2, .int x2)] := hl
  unfold wp_X6_limit at h
  refine lv_aload_n hx hb dX6_limit_0 rfl (lv_at hl 0 rfl) ?_
  refine lv_iload_n hx hb dX6_limit_1 rfl (lv_at hl 1 rfl) ?_
  refine zc_VI (As := [.int x1]) (rest := []) ⟨hx, hb, hml, hown, hts⟩ (cwV 1 hts gX6_limit_X6_isWatcher rfl rfl rfl hd_X6_isWatcher ⟨Nat.le_of_ble_eq_true rfl, Nat.le_of_ble_eq_true rfl⟩) (mt_X6_isWatcher l hZ σ _ x1 _ h) (rc_6 hZ hE hP kd100) hE hP hS rfl hl.1 rfl (Nat.le_of_ble_eq_true rfl) dX6_limit_2 ⟨Nat.zero_le _, Nat.zero_le _⟩ (fun r2 σ2 H locs h hP hS => ?_)
  refine lv_if_eq (tgt := 25) hx hb dX6_limit_5 (by decide) (fun hc => ?_) (fun hc => ?_)
  · have h := h.1 hc
    refine lv_bipush (v := (-2)) hx hb dX6_limit_25 (by decide) ?_
    exact zr_I hx hb hr hlocks hP hS h dX6_limit_27
  · have h := h.2 hc
    refine lv_aload_n hx hb dX6_limit_8 rfl (lv_at hl 0 rfl) ?_
    refine lv_iload_n hx hb dX6_limit_9 rfl (lv_at hl 2 rfl) ?_
    refine zc_VI (As := [.int x2]) (rest := []) ⟨hx, hb, hml, hown, hts⟩ (cwV 1 hts gX6_limit_X6_hasNews rfl rfl rfl hd_X6_hasNews ⟨Nat.le_of_ble_eq_true rfl, Nat.le_of_ble_eq_true rfl⟩) (mt_X6_hasNews l hZ σ2 _ x2 _ h) (rc_6 hZ hE hP kd100) hE hP hS rfl hl.1 rfl (Nat.le_of_ble_eq_true rfl) dX6_limit_10 ⟨Nat.zero_le _, Nat.zero_le _⟩ (fun r10 σ10 H locs h hP hS => ?_)
    refine lv_if_eq (tgt := 25) hx hb dX6_limit_13 (by decide) (fun hc => ?_) (fun hc => ?_)
    · have h := h.1 hc
      refine lv_bipush (v := (-2)) hx hb dX6_limit_25 (by decide) ?_
      exact zr_I hx hb hr hlocks hP hS h dX6_limit_27
    · have h := h.2 hc
      refine lv_aload_n hx hb dX6_limit_16 rfl (lv_at hl 0 rfl) ?_
      refine lv_iload_n hx hb dX6_limit_17 rfl (lv_at hl 1 rfl) ?_
      refine lv_iload_n hx hb dX6_limit_18 rfl (lv_at hl 2 rfl) ?_
      refine zc_VI (As := [.int x1, .int x2]) (rest := []) ⟨hx, hb, hml, hown, hts⟩ (cwV 2 hts gX6_limit_X6_limitOf rfl rfl rfl hd_X6_limitOf ⟨Nat.le_of_ble_eq_true rfl, Nat.le_of_ble_eq_true rfl⟩) (mt_X6_limitOf l hZ σ10 _ x1 x2 _ h) (rc_6 hZ hE hP kd100) hE hP hS rfl hl.1 rfl (Nat.le_of_ble_eq_true rfl) dX6_limit_19 ⟨Nat.zero_le _, Nat.zero_le _⟩ (fun r19 σ19 H locs h hP hS => ?_)
      refine lv_goto (tgt := 27) hx hb dX6_limit_22 (by decide) ?_
      exact zr_I hx hb hr hlocks hP hS h dX6_limit_27
theorem hd_X6_isDoubting : yX6_isDoubting.cls = RX6 ∧ yX6_isDoubting.cls ≠ "java/lang/invoke/MethodHandle" ∧ yX6_isDoubting.cls ≠ "java/lang/invoke/VarHandle" ∧ (parseMethodDescriptor yX6_isDoubting.desc).map (fun d => d.parameters.length) = some 2 := by decide +kernel
set_option maxHeartbeats 4000000 in
set_option maxRecDepth 100000 in
theorem mt_X6_isDoubting (l : Launch) {Z : ZW} (hZ : isM Z) (σ : SS) (sz : Nat) (x1 : Int32) (x2 : Int32) (K : SS → Int32 → Prop) (h : wp_X6_isDoubting σ x1 x2 K) : mtZ l yX6_isDoubting wsX6_isDoubting (rm9 6 144) Z [.ref (zq Z 100), .int x1, .int x2] σ sz (qcI Z K sz) := by
  refine Met.ofW (cc := cX6_isDoubting) (maxL := 6) (ret := (some .boolean)) (by decide) rfl ?_
  intro p e s m args below meth c s₁ B hml hv
  obtain ⟨hargs, hsz, hP, hE1, hE2, hE3⟩ := hv
  subst hsz
  have hE : envZ Z s := ⟨hE1, hE2, hE3⟩
  have hx := B.exec
  have hb := B.bytes
  have hr := B.returns
  have hlocks := B.notSynchronized
  have hts := atoms_spec (ws := wsX6_isDoubting) B.pre
  have hown : s.vm.findClass RX6 = some m.cls := findClass_of_methodNamed B.named
  have hS : SZ Z s s.heap [] := va_S.rf
  obtain ⟨ls, hef, hl⟩ := z_entry m hargs (n := 6) (Nat.le_of_ble_eq_true rfl)
  rw [hef]
  have hl : lv_has ls 6 [(0, .ref (zq Z 100)), (1, .int x1), (2, .int x2)] := hl
  have in6 : ∀ w ∈ u_ws RX6 TX6 28, w ∈ wsX6_isDoubting := by decide +kernel
  have lk107 := hts (.fieldLink RX6 107 "BeatDoubtsModel" "newsMany" "I") (by decide +kernel)
  have lk26 := hts (.fieldLink RX6 26 "BeatDoubtsModel" "newsTimes" "[I") (by decide +kernel)
  have lk41 := hts (.fieldLink RX6 41 "BeatDoubtsModel" "begins" "[I") (by decide +kernel)
  have lk44 := hts (.fieldLink RX6 44 "BeatDoubtsModel" "isMistake" "[Z") (by decide +kernel)
  have B10 : ∀ (n : Nat) (σ : SS) (x2 : Int32) (x3 : Int32) (x4 : Int32) (H : Heap) (locs : List Loc) (ls : Array Slot), fx4 (lb_X6_isDoubting_10 K) n σ x2 x3 x4 → PZ Z σ H → SZ Z s H locs → lv_has ls 6 [(0, .ref (zq Z 100)), (2, .int x2), (3, .int x3), (4, .int x4)] → W p l e (headSpec wsX6_isDoubting (rm9 6 144)).room s m args below meth c H locs 0 0 (MQ below (qcI Z K s.heap.size) args s 0 0 (aZ Z s.heap.size)) (F0 m 10 ls []) := by
    intro n10
    induction n10 with
    | zero => intro σ x2 x3 x4 H locs ls h; exact h.elim
    | succ n10 ih10 =>
      have B35 : ∀ (σ : SS) (x2 : Int32) (x3 : Int32) (x4 : Int32) (k0 : Int32) (H : Heap) (locs : List Loc) (ls : Array Slot), bl_X6_isDoubting_35 K (fx4 (lb_X6_isDoubting_10 K) n10) σ x2 x3 x4 k0 → PZ Z σ H → SZ Z s H locs → lv_has ls 6 [(0, .ref (zq Z 100)), (2, .int x2), (3, .int x3), (4, .int x4)] → W p l e (headSpec wsX6_isDoubting (rm9 6 144)).room s m args below meth c H locs 0 0 (MQ below (qcI Z K s.heap.size) args s 0 0 (aZ Z s.heap.size)) (F0 m 35 ls [.int k0]) := by
        intro σ x2 x3 x4 k0 H locs ls h hP hS hl
        unfold bl_X6_isDoubting_35 at h
        refine lv_istore (lv' := [(5, .int k0), (0, .ref (zq Z 100)), (2, .int x2), (3, .int x3), (4, .int x4)]) hx hb dX6_isDoubting_35 hl (by decide) rfl (fun ls hl => ?_)
        refine lv_iload_n hx hb dX6_isDoubting_37 rfl (lv_at hl 3 rfl) ?_
        refine lv_if_ne (tgt := 91) hx hb dX6_isDoubting_38 (by decide) (fun hc => ?_) (fun hc => ?_)
        · have h := h.1 hc
          refine lv_iconst (v := 1) hx hb dX6_isDoubting_91 (by decide) ?_
          refine lv_goto (tgt := 96) hx hb dX6_isDoubting_92 (by decide) ?_
          refine lv_istore_n (lv' := [(3, .int 1), (5, .int k0), (0, .ref (zq Z 100)), (2, .int x2), (4, .int x4)]) hx hb dX6_isDoubting_96 rfl hl (by decide) rfl (fun ls hl => ?_)
          refine lv_iinc (v := (x4 + 1)) (lv' := [(4, .int (x4 + 1)), (3, .int 1), (5, .int k0), (0, .ref (zq Z 100)), (2, .int x2)]) hx hb dX6_isDoubting_97 hl (k := 4) rfl rfl (by decide) rfl (fun ls hl => ?_)
          refine lv_goto (tgt := 10) hx hb dX6_isDoubting_100 (by decide) ?_
          exact ih10 σ x2 1 (x4 + 1) _ _ _ h hP hS (lv_sub hl [3, 4, 1, 0] rfl)
        · have h := h.2 hc
          refine lv_aload_n hx hb dX6_isDoubting_41 rfl (lv_at hl 1 rfl) ?_
          refine fg_6_13 hZ hx hb hts in6 hown hE hP kd100 lk41 dX6_isDoubting_42 ?_
          refine lv_iload hx hb dX6_isDoubting_45 (lv_at hl 4 rfl) ?_
          obtain ⟨hin, h⟩ := h
          refine al_20 hZ hx hb hE hP kr_6_13 hin dX6_isDoubting_47 ?_
          refine lv_iconst (v := (-1)) hx hb dX6_isDoubting_48 (by decide) ?_
          refine lv_icmp_eq (tgt := 95) hx hb dX6_isDoubting_49 (by decide) (fun hc => ?_) (fun hc => ?_)
          · have h := h.1 hc
            refine lv_iconst (v := 0) hx hb dX6_isDoubting_95 (by decide) ?_
            refine lv_istore_n (lv' := [(3, .int 0), (5, .int k0), (0, .ref (zq Z 100)), (2, .int x2), (4, .int x4)]) hx hb dX6_isDoubting_96 rfl hl (by decide) rfl (fun ls hl => ?_)
            refine lv_iinc (v := (x4 + 1)) (lv' := [(4, .int (x4 + 1)), (3, .int 0), (5, .int k0), (0, .ref (zq Z 100)), (2, .int x2)]) hx hb dX6_isDoubting_97 hl (k := 4) rfl rfl (by decide) rfl (fun ls hl => ?_)
            refine lv_goto (tgt := 10) hx hb dX6_isDoubting_100 (by decide) ?_
            exact ih10 σ x2 0 (x4 + 1) _ _ _ h hP hS (lv_sub hl [3, 4, 1, 0] rfl)
          · have h := h.2 hc
            refine lv_aload_n hx hb dX6_isDoubting_52 rfl (lv_at hl 1 rfl) ?_
            refine fg_6_13 hZ hx hb hts in6 hown hE hP kd100 lk41 dX6_isDoubting_53 ?_
            refine lv_iload hx hb dX6_isDoubting_56 (lv_at hl 4 rfl) ?_
            obtain ⟨hin, h⟩ := h
            refine al_20 hZ hx hb hE hP kr_6_13 hin dX6_isDoubting_58 ?_
            refine lv_iload_n hx hb dX6_isDoubting_59 rfl (lv_at hl 2 rfl) ?_
            refine lv_icmp_gt (tgt := 95) hx hb dX6_isDoubting_60 (by decide) (fun hc => ?_) (fun hc => ?_)
            · have h := h.1 hc
              refine lv_iconst (v := 0) hx hb dX6_isDoubting_95 (by decide) ?_
              refine lv_istore_n (lv' := [(3, .int 0), (5, .int k0), (0, .ref (zq Z 100)), (2, .int x2), (4, .int x4)]) hx hb dX6_isDoubting_96 rfl hl (by decide) rfl (fun ls hl => ?_)
              refine lv_iinc (v := (x4 + 1)) (lv' := [(4, .int (x4 + 1)), (3, .int 0), (5, .int k0), (0, .ref (zq Z 100)), (2, .int x2)]) hx hb dX6_isDoubting_97 hl (k := 4) rfl rfl (by decide) rfl (fun ls hl => ?_)
              refine lv_goto (tgt := 10) hx hb dX6_isDoubting_100 (by decide) ?_
              exact ih10 σ x2 0 (x4 + 1) _ _ _ h hP hS (lv_sub hl [3, 4, 1, 0] rfl)
            · have h := h.2 hc
              refine lv_iload hx hb dX6_isDoubting_63 (lv_at hl 0 rfl) ?_
              refine lv_if_ne (tgt := 91) hx hb dX6_isDoubting_65 (by decide) (fun hc => ?_) (fun hc => ?_)
              · have h := h.1 hc
                refine lv_iconst (v := 1) hx hb dX6_isDoubting_91 (by decide) ?_
                refine lv_goto (tgt := 96) hx hb dX6_isDoubting_92 (by decide) ?_
                refine lv_istore_n (lv' := [(3, .int 1), (5, .int k0), (0, .ref (zq Z 100)), (2, .int x2), (4, .int x4)]) hx hb dX6_isDoubting_96 rfl hl (by decide) rfl (fun ls hl => ?_)
                refine lv_iinc (v := (x4 + 1)) (lv' := [(4, .int (x4 + 1)), (3, .int 1), (5, .int k0), (0, .ref (zq Z 100)), (2, .int x2)]) hx hb dX6_isDoubting_97 hl (k := 4) rfl rfl (by decide) rfl (fun ls hl => ?_)
                refine lv_goto (tgt := 10) hx hb dX6_isDoubting_100 (by decide) ?_
                exact ih10 σ x2 1 (x4 + 1) _ _ _ h hP hS (lv_sub hl [3, 4, 1, 0] rfl)
              · have h := h.2 hc
                refine lv_aload_n hx hb dX6_isDoubting_68 rfl (lv_at hl 1 rfl) ?_
                refine fg_6_14 hZ hx hb hts in6 hown hE hP kd100 lk44 dX6_isDoubting_69 ?_
                refine lv_iload hx hb dX6_isDoubting_72 (lv_at hl 4 rfl) ?_
                obtain ⟨hin, h⟩ := h
                refine al_23 hZ hx hb hE hP kr_6_14 hin dX6_isDoubting_74 ?_
                refine lv_if_eq (tgt := 95) hx hb dX6_isDoubting_75 (by decide) (fun hc => ?_) (fun hc => ?_)
                · have h := h.1 hc
                  refine lv_iconst (v := 0) hx hb dX6_isDoubting_95 (by decide) ?_
                  refine lv_istore_n (lv' := [(3, .int 0), (5, .int k0), (0, .ref (zq Z 100)), (2, .int x2), (4, .int x4)]) hx hb dX6_isDoubting_96 rfl hl (by decide) rfl (fun ls hl => ?_)
                  refine lv_iinc (v := (x4 + 1)) (lv' := [(4, .int (x4 + 1)), (3, .int 0), (5, .int k0), (0, .ref (zq Z 100)), (2, .int x2)]) hx hb dX6_isDoubting_97 hl (k := 4) rfl rfl (by decide) rfl (fun ls hl => ?_)
                  refine lv_goto (tgt := 10) hx hb dX6_isDoubting_100 (by decide) ?_
                  exact ih10 σ x2 0 (x4 + 1) _ _ _ h hP hS (lv_sub hl [3, 4, 1, 0] rfl)
                · have h := h.2 hc
                  refine lv_iload_n hx hb dX6_isDoubting_78 rfl (lv_at hl 2 rfl) ?_
                  refine lv_aload_n hx hb dX6_isDoubting_79 rfl (lv_at hl 1 rfl) ?_
                  refine fg_6_6 hZ hx hb hts in6 hown hE hP kd100 lk26 dX6_isDoubting_80 ?_
                  refine lv_iload hx hb dX6_isDoubting_83 (lv_at hl 4 rfl) ?_
                  refine lv_iconst (v := 1) hx hb dX6_isDoubting_85 (by decide) ?_
                  refine lv_iadd hx hb dX6_isDoubting_86 ?_
                  obtain ⟨hin, h⟩ := h
                  refine al_20 hZ hx hb hE hP kr_6_6 hin dX6_isDoubting_87 ?_
                  refine lv_icmp_ge (tgt := 95) hx hb dX6_isDoubting_88 (by decide) (fun hc => ?_) (fun hc => ?_)
                  · have h := h.1 hc
                    refine lv_iconst (v := 0) hx hb dX6_isDoubting_95 (by decide) ?_
                    refine lv_istore_n (lv' := [(3, .int 0), (5, .int k0), (0, .ref (zq Z 100)), (2, .int x2), (4, .int x4)]) hx hb dX6_isDoubting_96 rfl hl (by decide) rfl (fun ls hl => ?_)
                    refine lv_iinc (v := (x4 + 1)) (lv' := [(4, .int (x4 + 1)), (3, .int 0), (5, .int k0), (0, .ref (zq Z 100)), (2, .int x2)]) hx hb dX6_isDoubting_97 hl (k := 4) rfl rfl (by decide) rfl (fun ls hl => ?_)
                    refine lv_goto (tgt := 10) hx hb dX6_isDoubting_100 (by decide) ?_
                    exact ih10 σ x2 0 (x4 + 1) _ _ _ h hP hS (lv_sub hl [3, 4, 1, 0] rfl)
                  · have h := h.2 hc
                    refine lv_iconst (v := 1) hx hb dX6_isDoubting_91 (by decide) ?_
                    refine lv_goto (tgt := 96) hx hb dX6_isDoubting_92 (by decide) ?_
                    refine lv_istore_n (lv' := [(3, .int 1), (5, .int k0), (0, .ref (zq Z 100)), (2, .int x2), (4, .int x4)]) hx hb dX6_isDoubting_96 rfl hl (by decide) rfl (fun ls hl => ?_)
                    refine lv_iinc (v := (x4 + 1)) (lv' := [(4, .int (x4 + 1)), (3, .int 1), (5, .int k0), (0, .ref (zq Z 100)), (2, .int x2)]) hx hb dX6_isDoubting_97 hl (k := 4) rfl rfl (by decide) rfl (fun ls hl => ?_)
                    refine lv_goto (tgt := 10) hx hb dX6_isDoubting_100 (by decide) ?_
                    exact ih10 σ x2 1 (x4 + 1) _ _ _ h hP hS (lv_sub hl [3, 4, 1, 0] rfl)
      intro σ x2 x3 x4 H locs ls h hP hS hl
      have h : lb_X6_isDoubting_10 K (fx4 (lb_X6_isDoubting_10 K) n10) σ x2 x3 x4 := h
      unfold lb_X6_isDoubting_10 at h
      refine lv_iload hx hb dX6_isDoubting_10 (lv_at hl 3 rfl) ?_
      refine lv_aload_n hx hb dX6_isDoubting_12 rfl (lv_at hl 0 rfl) ?_
      refine fg_6_7 hZ hx hb hts in6 hown hE hP kd100 lk107 dX6_isDoubting_13 ?_
      refine lv_icmp_ge (tgt := 103) hx hb dX6_isDoubting_16 (by decide) (fun hc => ?_) (fun hc => ?_)
      · have h := h.1 hc
        refine lv_iload_n hx hb dX6_isDoubting_103 rfl (lv_at hl 2 rfl) ?_
        exact zr_Z hx hb hr hlocks hP hS h.1 h.2 dX6_isDoubting_104
      · have h := h.2 hc
        refine lv_iload hx hb dX6_isDoubting_19 (lv_at hl 3 rfl) ?_
        refine lv_iconst (v := 1) hx hb dX6_isDoubting_21 (by decide) ?_
        refine lv_iadd hx hb dX6_isDoubting_22 ?_
        refine lv_aload_n hx hb dX6_isDoubting_23 rfl (lv_at hl 0 rfl) ?_
        refine fg_6_7 hZ hx hb hts in6 hown hE hP kd100 lk107 dX6_isDoubting_24 ?_
        refine lv_icmp_ne (tgt := 34) hx hb dX6_isDoubting_27 (by decide) (fun hc => ?_) (fun hc => ?_)
        · have h := h.1 hc
          refine lv_iconst (v := 0) hx hb dX6_isDoubting_34 (by decide) ?_
          exact B35 σ x2 x3 x4 0 _ _ _ h hP hS (lv_sub hl [0, 1, 2, 3] rfl)
        · have h := h.2 hc
          refine lv_iconst (v := 1) hx hb dX6_isDoubting_30 (by decide) ?_
          refine lv_goto (tgt := 35) hx hb dX6_isDoubting_31 (by decide) ?_
          exact B35 σ x2 x3 x4 1 _ _ _ h hP hS (lv_sub hl [0, 1, 2, 3] rfl)
  unfold wp_X6_isDoubting at h
  refine lv_aload_n hx hb dX6_isDoubting_0 rfl (lv_at hl 0 rfl) ?_
  refine lv_iload_n hx hb dX6_isDoubting_1 rfl (lv_at hl 1 rfl) ?_
  refine zc_VV (As := [.int x1]) (rest := []) ⟨hx, hb, hml, hown, hts⟩ (cwV 1 hts gX6_isDoubting_X6_goesAs rfl rfl rfl hd_X6_goesAs ⟨Nat.le_of_ble_eq_true rfl, Nat.le_of_ble_eq_true rfl⟩) (mt_X6_goesAs l hZ σ _ x1 _ h) (rc_6 hZ hE hP kd100) hE hP hS rfl hl.1 rfl (Nat.le_of_ble_eq_true rfl) dX6_isDoubting_2 ⟨Nat.zero_le _, Nat.zero_le _⟩ (fun σ2 H locs h hP hS => ?_)
  refine lv_iconst (v := 0) hx hb dX6_isDoubting_5 (by decide) ?_
  refine lv_istore_n (lv' := [(3, .int 0), (0, .ref (zq Z 100)), (1, .int x1), (2, .int x2)]) hx hb dX6_isDoubting_6 rfl hl (by decide) rfl (fun ls hl => ?_)
  refine lv_iconst (v := 0) hx hb dX6_isDoubting_7 (by decide) ?_
  refine lv_istore (lv' := [(4, .int 0), (3, .int 0), (0, .ref (zq Z 100)), (1, .int x1), (2, .int x2)]) hx hb dX6_isDoubting_8 hl (by decide) rfl (fun ls hl => ?_)
  obtain ⟨n, h⟩ := h
  exact B10 n σ2 x2 0 0 _ _ _ h hP hS (lv_sub hl [2, 4, 1, 0] rfl)
theorem hd_X6_doubtsAt : yX6_doubtsAt.cls = RX6 ∧ yX6_doubtsAt.cls ≠ "java/lang/invoke/MethodHandle" ∧ yX6_doubtsAt.cls ≠ "java/lang/invoke/VarHandle" ∧ (parseMethodDescriptor yX6_doubtsAt.desc).map (fun d => d.parameters.length) = some 1 := by decide +kernel
set_option maxHeartbeats 4000000 in
set_option maxRecDepth 100000 in
theorem mt_X6_doubtsAt (l : Launch) {Z : ZW} (hZ : isM Z) (σ : SS) (sz : Nat) (x1 : Int32) (K : SS → Int32 → Prop) (h : wp_X6_doubtsAt σ x1 K) : mtZ l yX6_doubtsAt wsX6_doubtsAt (rm9 7 169) Z [.ref (zq Z 100), .int x1] σ sz (qcI Z K sz) := by
  refine Met.ofW (cc := cX6_doubtsAt) (maxL := 4) (ret := (some .int)) (by decide) rfl ?_
  intro p e s m args below meth c s₁ B hml hv
  obtain ⟨hargs, hsz, hP, hE1, hE2, hE3⟩ := hv
  subst hsz
  have hE : envZ Z s := ⟨hE1, hE2, hE3⟩
  have hx := B.exec
  have hb := B.bytes
  have hr := B.returns
  have hlocks := B.notSynchronized
  have hts := atoms_spec (ws := wsX6_doubtsAt) B.pre
  have hown : s.vm.findClass RX6 = some m.cls := findClass_of_methodNamed B.named
  have hS : SZ Z s s.heap [] := va_S.rf
  obtain ⟨ls, hef, hl⟩ := z_entry m hargs (n := 4) (Nat.le_of_ble_eq_true rfl)
  rw [hef]
  have hl : lv_has ls 4 [(0, .ref (zq Z 100)), (1, .int x1)] := hl
  have in6 : ∀ w ∈ u_ws RX6 TX6 28, w ∈ wsX6_doubtsAt := by decide +kernel
  have lk157 := hts (.fieldLink RX6 157 "BeatDoubtsModel" "watchers" "I") (by decide +kernel)
  have B4 : ∀ (n : Nat) (σ : SS) (x1 : Int32) (x2 : Int32) (x3 : Int32) (H : Heap) (locs : List Loc) (ls : Array Slot), fx4 (lb_X6_doubtsAt_4 K) n σ x1 x2 x3 → PZ Z σ H → SZ Z s H locs → lv_has ls 4 [(0, .ref (zq Z 100)), (1, .int x1), (2, .int x2), (3, .int x3)] → W p l e (headSpec wsX6_doubtsAt (rm9 7 169)).room s m args below meth c H locs 0 0 (MQ below (qcI Z K s.heap.size) args s 0 0 (aZ Z s.heap.size)) (F0 m 4 ls []) := by
    intro n4
    induction n4 with
    | zero => intro σ x1 x2 x3 H locs ls h; exact h.elim
    | succ n4 ih4 =>
      intro σ x1 x2 x3 H locs ls h hP hS hl
      have h : lb_X6_doubtsAt_4 K (fx4 (lb_X6_doubtsAt_4 K) n4) σ x1 x2 x3 := h
      unfold lb_X6_doubtsAt_4 at h
      refine lv_iload_n hx hb dX6_doubtsAt_4 rfl (lv_at hl 3 rfl) ?_
      refine lv_aload_n hx hb dX6_doubtsAt_5 rfl (lv_at hl 0 rfl) ?_
      refine fg_6_12 hZ hx hb hts in6 hown hE hP kd100 lk157 dX6_doubtsAt_6 ?_
      refine lv_icmp_ge (tgt := 37) hx hb dX6_doubtsAt_9 (by decide) (fun hc => ?_) (fun hc => ?_)
      · have h := h.1 hc
        refine lv_iload_n hx hb dX6_doubtsAt_37 rfl (lv_at hl 2 rfl) ?_
        exact zr_I hx hb hr hlocks hP hS h dX6_doubtsAt_38
      · have h := h.2 hc
        refine lv_iload_n hx hb dX6_doubtsAt_12 rfl (lv_at hl 2 rfl) ?_
        refine lv_aload_n hx hb dX6_doubtsAt_13 rfl (lv_at hl 0 rfl) ?_
        refine lv_iload_n hx hb dX6_doubtsAt_14 rfl (lv_at hl 3 rfl) ?_
        refine lv_iload_n hx hb dX6_doubtsAt_15 rfl (lv_at hl 1 rfl) ?_
        refine zc_VI (As := [.int x3, .int x1]) (rest := [.int x2]) ⟨hx, hb, hml, hown, hts⟩ (cwV 2 hts gX6_doubtsAt_X6_isDoubting rfl rfl rfl hd_X6_isDoubting ⟨Nat.le_of_ble_eq_true rfl, Nat.le_of_ble_eq_true rfl⟩) (mt_X6_isDoubting l hZ σ _ x3 x1 _ h) (rc_6 hZ hE hP kd100) hE hP hS rfl hl.1 rfl (Nat.le_of_ble_eq_true rfl) dX6_doubtsAt_16 ⟨Nat.zero_le _, Nat.zero_le _⟩ (fun r16 σ16 H locs h hP hS => ?_)
        refine lv_if_eq (tgt := 28) hx hb dX6_doubtsAt_19 (by decide) (fun hc => ?_) (fun hc => ?_)
        · have h := h.1 hc
          refine lv_iconst (v := 0) hx hb dX6_doubtsAt_28 (by decide) ?_
          refine lv_ior hx hb dX6_doubtsAt_29 ?_
          refine lv_istore_n (lv' := [(2, .int (x2 ||| 0)), (0, .ref (zq Z 100)), (1, .int x1), (3, .int x3)]) hx hb dX6_doubtsAt_30 rfl hl (by decide) rfl (fun ls hl => ?_)
          refine lv_iinc (v := (x3 + 1)) (lv' := [(3, .int (x3 + 1)), (2, .int (x2 ||| 0)), (0, .ref (zq Z 100)), (1, .int x1)]) hx hb dX6_doubtsAt_31 hl (k := 3) rfl rfl (by decide) rfl (fun ls hl => ?_)
          refine lv_goto (tgt := 4) hx hb dX6_doubtsAt_34 (by decide) ?_
          exact ih4 σ16 x1 (x2 ||| 0) (x3 + 1) _ _ _ h hP hS (lv_sub hl [2, 3, 1, 0] rfl)
        · have h := h.2 hc
          refine lv_iconst (v := 1) hx hb dX6_doubtsAt_22 (by decide) ?_
          refine lv_iload_n hx hb dX6_doubtsAt_23 rfl (lv_at hl 3 rfl) ?_
          refine lv_ishl hx hb dX6_doubtsAt_24 ?_
          refine lv_goto (tgt := 29) hx hb dX6_doubtsAt_25 (by decide) ?_
          refine lv_ior hx hb dX6_doubtsAt_29 ?_
          refine lv_istore_n (lv' := [(2, .int (x2 ||| ((1 : Int32) <<< (x3 &&& 31)))), (0, .ref (zq Z 100)), (1, .int x1), (3, .int x3)]) hx hb dX6_doubtsAt_30 rfl hl (by decide) rfl (fun ls hl => ?_)
          refine lv_iinc (v := (x3 + 1)) (lv' := [(3, .int (x3 + 1)), (2, .int (x2 ||| ((1 : Int32) <<< (x3 &&& 31)))), (0, .ref (zq Z 100)), (1, .int x1)]) hx hb dX6_doubtsAt_31 hl (k := 3) rfl rfl (by decide) rfl (fun ls hl => ?_)
          refine lv_goto (tgt := 4) hx hb dX6_doubtsAt_34 (by decide) ?_
          exact ih4 σ16 x1 (x2 ||| ((1 : Int32) <<< (x3 &&& 31))) (x3 + 1) _ _ _ h hP hS (lv_sub hl [2, 3, 1, 0] rfl)
  unfold wp_X6_doubtsAt at h
  refine lv_iconst (v := 0) hx hb dX6_doubtsAt_0 (by decide) ?_
  refine lv_istore_n (lv' := [(2, .int 0), (0, .ref (zq Z 100)), (1, .int x1)]) hx hb dX6_doubtsAt_1 rfl hl (by decide) rfl (fun ls hl => ?_)
  refine lv_iconst (v := 0) hx hb dX6_doubtsAt_2 (by decide) ?_
  refine lv_istore_n (lv' := [(3, .int 0), (2, .int 0), (0, .ref (zq Z 100)), (1, .int x1)]) hx hb dX6_doubtsAt_3 rfl hl (by decide) rfl (fun ls hl => ?_)
  obtain ⟨n, h⟩ := h
  exact B4 n σ x1 0 0 _ _ _ h hP hS (lv_sub hl [2, 3, 1, 0] rfl)
theorem hd_X6_doubts : yX6_doubts.cls = RX6 ∧ yX6_doubts.cls ≠ "java/lang/invoke/MethodHandle" ∧ yX6_doubts.cls ≠ "java/lang/invoke/VarHandle" ∧ (parseMethodDescriptor yX6_doubts.desc).map (fun d => d.parameters.length) = some 1 := by decide +kernel
set_option maxHeartbeats 4000000 in
set_option maxRecDepth 100000 in
theorem mt_X6_doubts (l : Launch) {Z : ZW} (hZ : isM Z) (σ : SS) (sz : Nat) (x1 : Int32) (K : SS → Int32 → Prop) (h : wp_X6_doubts σ x1 K) : mtZ l yX6_doubts wsX6_doubts (rm9 8 192) Z [.ref (zq Z 100), .int x1] σ sz (qcI Z K sz) := by
  refine Met.ofW (cc := cX6_doubts) (maxL := 2) (ret := (some .int)) (by decide) rfl ?_
  intro p e s m args below meth c s₁ B hml hv
  obtain ⟨hargs, hsz, hP, hE1, hE2, hE3⟩ := hv
  subst hsz
  have hE : envZ Z s := ⟨hE1, hE2, hE3⟩
  have hx := B.exec
  have hb := B.bytes
  have hr := B.returns
  have hlocks := B.notSynchronized
  have hts := atoms_spec (ws := wsX6_doubts) B.pre
  have hown : s.vm.findClass RX6 = some m.cls := findClass_of_methodNamed B.named
  have hS : SZ Z s s.heap [] := va_S.rf
  obtain ⟨ls, hef, hl⟩ := z_entry m hargs (n := 2) (Nat.le_of_ble_eq_true rfl)
  rw [hef]
  have hl : lv_has ls 2 [(0, .ref (zq Z 100)), (1, .int x1)] := hl
  unfold wp_X6_doubts at h
  refine lv_iload_n hx hb dX6_doubts_0 rfl (lv_at hl 1 rfl) ?_
  refine lv_iconst (v := 0) hx hb dX6_doubts_1 (by decide) ?_
  refine lv_sipush (v := 6000) hx hb dX6_doubts_2 (by decide) ?_
  refine zc_SI (As := [.int x1, .int 0, .int 6000]) (rest := []) ⟨hx, hb, hml, hown, hts⟩ (va_cwS 3 hts gX6_doubts_X6_in rfl rfl rfl hd_X6_in ⟨Nat.le_of_ble_eq_true rfl, Nat.le_of_ble_eq_true rfl⟩) (mt_X6_in l hZ σ _ x1 0 6000 _ h) hE hP hS rfl hl.1 rfl (Nat.le_of_ble_eq_true rfl) dX6_doubts_5 ⟨Nat.zero_le _, Nat.zero_le _⟩ (fun r5 σ5 H locs h hP hS => ?_)
  refine lv_if_eq (tgt := 19) hx hb dX6_doubts_8 (by decide) (fun hc => ?_) (fun hc => ?_)
  · have h := h.1 hc
    refine lv_bipush (v := (-2)) hx hb dX6_doubts_19 (by decide) ?_
    exact zr_I hx hb hr hlocks hP hS h dX6_doubts_21
  · have h := h.2 hc
    refine lv_aload_n hx hb dX6_doubts_11 rfl (lv_at hl 0 rfl) ?_
    refine lv_iload_n hx hb dX6_doubts_12 rfl (lv_at hl 1 rfl) ?_
    refine zc_VI (As := [.int x1]) (rest := []) ⟨hx, hb, hml, hown, hts⟩ (cwV 1 hts gX6_doubts_X6_doubtsAt rfl rfl rfl hd_X6_doubtsAt ⟨Nat.le_of_ble_eq_true rfl, Nat.le_of_ble_eq_true rfl⟩) (mt_X6_doubtsAt l hZ σ5 _ x1 _ h) (rc_6 hZ hE hP kd100) hE hP hS rfl hl.1 rfl (Nat.le_of_ble_eq_true rfl) dX6_doubts_13 ⟨Nat.zero_le _, Nat.zero_le _⟩ (fun r13 σ13 H locs h hP hS => ?_)
    refine lv_goto (tgt := 21) hx hb dX6_doubts_16 (by decide) ?_
    exact zr_I hx hb hr hlocks hP hS h dX6_doubts_21
theorem hd_X6_noticedOf : yX6_noticedOf.cls = RX6 ∧ yX6_noticedOf.cls ≠ "java/lang/invoke/MethodHandle" ∧ yX6_noticedOf.cls ≠ "java/lang/invoke/VarHandle" ∧ (parseMethodDescriptor yX6_noticedOf.desc).map (fun d => d.parameters.length) = some 1 := by decide +kernel
set_option maxHeartbeats 4000000 in
set_option maxRecDepth 100000 in
theorem mt_X6_noticedOf (l : Launch) {Z : ZW} (hZ : isM Z) (σ : SS) (sz : Nat) (x1 : Int32) (K : SS → Int32 → Prop) (h : wp_X6_noticedOf σ x1 K) : mtZ l yX6_noticedOf wsX6_noticedOf (rm9 7 165) Z [.ref (zq Z 100), .int x1] σ sz (qcI Z K sz) := by
  refine Met.ofW (cc := cX6_noticedOf) (maxL := 3) (ret := (some .int)) (by decide) rfl ?_
  intro p e s m args below meth c s₁ B hml hv
  obtain ⟨hargs, hsz, hP, hE1, hE2, hE3⟩ := hv
  subst hsz
  have hE : envZ Z s := ⟨hE1, hE2, hE3⟩
  have hx := B.exec
  have hb := B.bytes
  have hr := B.returns
  have hlocks := B.notSynchronized
  have hts := atoms_spec (ws := wsX6_noticedOf) B.pre
  have hown : s.vm.findClass RX6 = some m.cls := findClass_of_methodNamed B.named
  have hS : SZ Z s s.heap [] := va_S.rf
  obtain ⟨ls, hef, hl⟩ := z_entry m hargs (n := 3) (Nat.le_of_ble_eq_true rfl)
  rw [hef]
  have hl : lv_has ls 3 [(0, .ref (zq Z 100)), (1, .int x1)] := hl
  have in6 : ∀ w ∈ u_ws RX6 TX6 28, w ∈ wsX6_noticedOf := by decide +kernel
  have lk20 := hts (.fieldLink RX6 20 "BeatDoubtsModel" "silenceAt" "I") (by decide +kernel)
  unfold wp_X6_noticedOf at h
  refine lv_aload_n hx hb dX6_noticedOf_0 rfl (lv_at hl 0 rfl) ?_
  refine lv_iload_n hx hb dX6_noticedOf_1 rfl (lv_at hl 1 rfl) ?_
  refine zc_VI (As := [.int x1]) (rest := []) ⟨hx, hb, hml, hown, hts⟩ (cwV 1 hts gX6_noticedOf_X6_forGood rfl rfl rfl hd_X6_forGood ⟨Nat.le_of_ble_eq_true rfl, Nat.le_of_ble_eq_true rfl⟩) (mt_X6_forGood l hZ σ _ x1 _ h) (rc_6 hZ hE hP kd100) hE hP hS rfl hl.1 rfl (Nat.le_of_ble_eq_true rfl) dX6_noticedOf_2 ⟨Nat.zero_le _, Nat.zero_le _⟩ (fun r2 σ2 H locs h hP hS => ?_)
  refine lv_istore_n (lv' := [(2, .int r2), (0, .ref (zq Z 100)), (1, .int x1)]) hx hb dX6_noticedOf_5 rfl hl (by decide) rfl (fun ls hl => ?_)
  refine lv_aload_n hx hb dX6_noticedOf_6 rfl (lv_at hl 1 rfl) ?_
  refine fg_6_4 hZ hx hb hts in6 hown hE hP kd100 lk20 dX6_noticedOf_7 ?_
  refine lv_iconst (v := (-1)) hx hb dX6_noticedOf_10 (by decide) ?_
  refine lv_icmp_eq (tgt := 19) hx hb dX6_noticedOf_11 (by decide) (fun hc => ?_) (fun hc => ?_)
  · have h := h.1 hc
    refine lv_iconst (v := (-1)) hx hb dX6_noticedOf_19 (by decide) ?_
    refine lv_goto (tgt := 41) hx hb dX6_noticedOf_20 (by decide) ?_
    exact zr_I hx hb hr hlocks hP hS h dX6_noticedOf_41
  · have h := h.2 hc
    refine lv_iload_n hx hb dX6_noticedOf_14 rfl (lv_at hl 0 rfl) ?_
    refine lv_iconst (v := (-1)) hx hb dX6_noticedOf_15 (by decide) ?_
    refine lv_icmp_ne (tgt := 23) hx hb dX6_noticedOf_16 (by decide) (fun hc => ?_) (fun hc => ?_)
    · have h := h.1 hc
      refine lv_iload_n hx hb dX6_noticedOf_23 rfl (lv_at hl 0 rfl) ?_
      refine lv_aload_n hx hb dX6_noticedOf_24 rfl (lv_at hl 1 rfl) ?_
      refine fg_6_4 hZ hx hb hts in6 hown hE hP kd100 lk20 dX6_noticedOf_25 ?_
      refine lv_icmp_ge (tgt := 35) hx hb dX6_noticedOf_28 (by decide) (fun hc => ?_) (fun hc => ?_)
      · have h := h.1 hc
        refine lv_iload_n hx hb dX6_noticedOf_35 rfl (lv_at hl 0 rfl) ?_
        refine lv_aload_n hx hb dX6_noticedOf_36 rfl (lv_at hl 1 rfl) ?_
        refine fg_6_4 hZ hx hb hts in6 hown hE hP kd100 lk20 dX6_noticedOf_37 ?_
        refine lv_isub hx hb dX6_noticedOf_40 ?_
        exact zr_I hx hb hr hlocks hP hS h dX6_noticedOf_41
      · have h := h.2 hc
        refine lv_iconst (v := 0) hx hb dX6_noticedOf_31 (by decide) ?_
        refine lv_goto (tgt := 41) hx hb dX6_noticedOf_32 (by decide) ?_
        exact zr_I hx hb hr hlocks hP hS h dX6_noticedOf_41
    · have h := h.2 hc
      refine lv_iconst (v := (-1)) hx hb dX6_noticedOf_19 (by decide) ?_
      refine lv_goto (tgt := 41) hx hb dX6_noticedOf_20 (by decide) ?_
      exact zr_I hx hb hr hlocks hP hS h dX6_noticedOf_41
