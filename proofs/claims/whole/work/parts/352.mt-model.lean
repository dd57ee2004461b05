theorem hd_X6_score : yX6_score.cls = RX6 ∧ yX6_score.cls ≠ "java/lang/invoke/MethodHandle" ∧ yX6_score.cls ≠ "java/lang/invoke/VarHandle" ∧ (parseMethodDescriptor yX6_score.desc).map (fun d => d.parameters.length) = some 2 := by decide +kernel
set_option maxHeartbeats 4000000 in
set_option maxRecDepth 100000 in
theorem mt_X6_score (l : Launch) {Z : ZW} (hZ : isM Z) (σ : SS) (sz : Nat) (x1 : Int32) (x2 : Int32) (K : SS → Int64 → Prop) (h : wp_X6_score σ x1 x2 K) : mtZ l yX6_score wsX6_score (rm9 5 110) Z [.ref (zq Z 100), .int x1, .int x2] σ sz (qcL Z K sz) := by
  refine Met.ofW (cc := cX6_score) (maxL := 3) (ret := (some .long)) (by decide) rfl ?_
  intro p e s m args below meth c s₁ B hml hv
  obtain ⟨hargs, hsz, hP, hE1, hE2, hE3⟩ := hv
  subst hsz
  have hE : envZ Z s := ⟨hE1, hE2, hE3⟩
  have hx := B.exec
  have hb := B.bytes
  have hr := B.returns
  have hlocks := B.notSynchronized
  have hts := atoms_spec (ws := wsX6_score) B.pre
  have hown : s.vm.findClass RX6 = some m.cls := findClass_of_methodNamed B.named
  have hS : SZ Z s s.heap [] := va_S.rf
  obtain ⟨ls, hef, hl⟩ := z_entry m hargs (n := 3) (Nat.le_of_ble_eq_true rfl)
  rw [hef]
  have hl : lv_has ls 3 [(0, .ref (zq Z 100)), (1, .int x1), (2, .int x2)] := hl
  unfold wp_X6_score at h
  refine lv_iload_n hx hb dX6_score_0 rfl (lv_at hl 1 rfl) ?_
  refine lv_iconst (v := 0) hx hb dX6_score_1 (by decide) ?_
  refine lv_sipush (v := 6000) hx hb dX6_score_2 (by decide) ?_
  refine zc_SI (As := [.int x1, .int 0, .int 6000]) (rest := []) ⟨hx, hb, hml, hown, hts⟩ (va_cwS 3 hts gX6_score_X6_in rfl rfl rfl hd_X6_in ⟨Nat.le_of_ble_eq_true rfl, Nat.le_of_ble_eq_true rfl⟩) (mt_X6_in l hZ σ _ x1 0 6000 _ h) hE hP hS rfl hl.1 rfl (Nat.le_of_ble_eq_true rfl) dX6_score_5 ⟨Nat.zero_le _, Nat.zero_le _⟩ (fun r5 σ5 H locs h hP hS => ?_)
  refine lv_if_eq (tgt := 29) hx hb dX6_score_8 (by decide) (fun hc => ?_) (fun hc => ?_)
  · have h := h.1 hc
    refine lv_bipush (v := (-2)) hx hb dX6_score_29 (by decide) ?_
    refine zc_SL (As := [.int (-2)]) (rest := []) ⟨hx, hb, hml, hown, hts⟩ (va_cwS 1 hts gX6_score_X6_no rfl rfl rfl hd_X6_no ⟨Nat.le_of_ble_eq_true rfl, Nat.le_of_ble_eq_true rfl⟩) (mt_X6_no l hZ σ5 _ (-2) _ h) hE hP hS rfl hl.1 rfl (Nat.le_of_ble_eq_true rfl) dX6_score_31 ⟨Nat.zero_le _, Nat.zero_le _⟩ (fun r31 σ31 H locs h hP hS => ?_)
    exact zr_L hx hb hr hlocks hP hS h dX6_score_34
  · have h := h.2 hc
    refine lv_iload_n hx hb dX6_score_11 rfl (lv_at hl 2 rfl) ?_
    refine lv_iconst (v := 0) hx hb dX6_score_12 (by decide) ?_
    refine lv_iconst (v := 1) hx hb dX6_score_13 (by decide) ?_
    refine zc_SI (As := [.int x2, .int 0, .int 1]) (rest := []) ⟨hx, hb, hml, hown, hts⟩ (va_cwS 3 hts gX6_score_X6_in rfl rfl rfl hd_X6_in ⟨Nat.le_of_ble_eq_true rfl, Nat.le_of_ble_eq_true rfl⟩) (mt_X6_in l hZ σ5 _ x2 0 1 _ h) hE hP hS rfl hl.1 rfl (Nat.le_of_ble_eq_true rfl) dX6_score_14 ⟨Nat.zero_le _, Nat.zero_le _⟩ (fun r14 σ14 H locs h hP hS => ?_)
    refine lv_if_eq (tgt := 29) hx hb dX6_score_17 (by decide) (fun hc => ?_) (fun hc => ?_)
    · have h := h.1 hc
      refine lv_bipush (v := (-2)) hx hb dX6_score_29 (by decide) ?_
      refine zc_SL (As := [.int (-2)]) (rest := []) ⟨hx, hb, hml, hown, hts⟩ (va_cwS 1 hts gX6_score_X6_no rfl rfl rfl hd_X6_no ⟨Nat.le_of_ble_eq_true rfl, Nat.le_of_ble_eq_true rfl⟩) (mt_X6_no l hZ σ14 _ (-2) _ h) hE hP hS rfl hl.1 rfl (Nat.le_of_ble_eq_true rfl) dX6_score_31 ⟨Nat.zero_le _, Nat.zero_le _⟩ (fun r31 σ31 H locs h hP hS => ?_)
      exact zr_L hx hb hr hlocks hP hS h dX6_score_34
    · have h := h.2 hc
      refine lv_aload_n hx hb dX6_score_20 rfl (lv_at hl 0 rfl) ?_
      refine lv_iload_n hx hb dX6_score_21 rfl (lv_at hl 1 rfl) ?_
      refine lv_iload_n hx hb dX6_score_22 rfl (lv_at hl 2 rfl) ?_
      refine zc_VL (As := [.int x1, .int x2]) (rest := []) ⟨hx, hb, hml, hown, hts⟩ (cwV 2 hts gX6_score_X6_scoreOf rfl rfl rfl hd_X6_scoreOf ⟨Nat.le_of_ble_eq_true rfl, Nat.le_of_ble_eq_true rfl⟩) (mt_X6_scoreOf l hZ σ14 _ x1 x2 _ h) (rc_6 hZ hE hP kd100) hE hP hS rfl hl.1 rfl (Nat.le_of_ble_eq_true rfl) dX6_score_23 ⟨Nat.zero_le _, Nat.zero_le _⟩ (fun r23 σ23 H locs h hP hS => ?_)
      refine lv_goto (tgt := 34) hx hb dX6_score_26 (by decide) ?_
      exact zr_L hx hb hr hlocks hP hS h dX6_score_34
theorem hd_X6_isMeasure : yX6_isMeasure.cls ≠ "java/lang/invoke/MethodHandle" ∧ yX6_isMeasure.cls ≠ "java/lang/invoke/VarHandle" ∧ (parseMethodDescriptor yX6_isMeasure.desc).map (fun d => d.parameters.length) = some 2 := by decide +kernel
set_option maxHeartbeats 4000000 in
set_option maxRecDepth 100000 in
theorem mt_X6_isMeasure (l : Launch) {Z : ZW} (hZ : isM Z) (σ : SS) (sz : Nat) (x0 : Int32) (x1 : Int32) (K : SS → Int32 → Prop) (h : wp_X6_isMeasure σ x0 x1 K) : mtZ l yX6_isMeasure wsX6_isMeasure (rm9 1 22) Z [.int x0, .int x1] σ sz (qcI Z K sz) := by
  refine Met.ofW (cc := cX6_isMeasure) (maxL := 2) (ret := (some .boolean)) (by decide) rfl ?_
  intro p e s m args below meth c s₁ B hml hv
  obtain ⟨hargs, hsz, hP, hE1, hE2, hE3⟩ := hv
  subst hsz
  have hE : envZ Z s := ⟨hE1, hE2, hE3⟩
  have hx := B.exec
  have hb := B.bytes
  have hr := B.returns
  have hlocks := B.notSynchronized
  have hts := atoms_spec (ws := wsX6_isMeasure) B.pre
  have hown : s.vm.findClass RX6 = some m.cls := findClass_of_methodNamed B.named
  have hS : SZ Z s s.heap [] := va_S.rf
  obtain ⟨ls, hef, hl⟩ := z_entry m hargs (n := 2) (Nat.le_of_ble_eq_true rfl)
  rw [hef]
  have hl : lv_has ls 2 [(0, .int x0), (1, .int x1)] := hl
  unfold wp_X6_isMeasure at h
  refine lv_iload_n hx hb dX6_isMeasure_0 rfl (lv_at hl 0 rfl) ?_
  by_cases hc0 : x0 = 0
  · have h := h.1 hc0
    refine lv_tableIn (tgt := 28) hx hb dX6_isMeasure_1 (by rw [hc0] <;> decide) (by rw [hc0] <;> decide) (by rw [hc0] <;> rfl) (by decide) ?_
    refine lv_iload_n hx hb dX6_isMeasure_28 rfl (lv_at hl 1 rfl) ?_
    refine lv_iconst (v := 0) hx hb dX6_isMeasure_29 (by decide) ?_
    refine lv_bipush (v := 99) hx hb dX6_isMeasure_30 (by decide) ?_
    refine zc_SI (As := [.int x1, .int 0, .int 99]) (rest := []) ⟨hx, hb, hml, hown, hts⟩ (va_cwS 3 hts gX6_isMeasure_X6_in rfl rfl rfl hd_X6_in ⟨Nat.le_of_ble_eq_true rfl, Nat.le_of_ble_eq_true rfl⟩) (mt_X6_in l hZ σ _ x1 0 99 _ h) hE hP hS rfl hl.1 rfl (Nat.le_of_ble_eq_true rfl) dX6_isMeasure_32 ⟨Nat.zero_le _, Nat.zero_le _⟩ (fun r32 σ32 H locs h hP hS => ?_)
    exact zr_Z hx hb hr hlocks hP hS h.1 h.2 dX6_isMeasure_35
  by_cases hc1 : x0 = 1
  · have h := h.2.1 hc1
    refine lv_tableIn (tgt := 36) hx hb dX6_isMeasure_1 (by rw [hc1] <;> decide) (by rw [hc1] <;> decide) (by rw [hc1] <;> rfl) (by decide) ?_
    refine lv_iload_n hx hb dX6_isMeasure_36 rfl (lv_at hl 1 rfl) ?_
    refine lv_iconst (v := 1) hx hb dX6_isMeasure_37 (by decide) ?_
    refine lv_bipush (v := 10) hx hb dX6_isMeasure_38 (by decide) ?_
    refine zc_SI (As := [.int x1, .int 1, .int 10]) (rest := []) ⟨hx, hb, hml, hown, hts⟩ (va_cwS 3 hts gX6_isMeasure_X6_in rfl rfl rfl hd_X6_in ⟨Nat.le_of_ble_eq_true rfl, Nat.le_of_ble_eq_true rfl⟩) (mt_X6_in l hZ σ _ x1 1 10 _ h) hE hP hS rfl hl.1 rfl (Nat.le_of_ble_eq_true rfl) dX6_isMeasure_40 ⟨Nat.zero_le _, Nat.zero_le _⟩ (fun r40 σ40 H locs h hP hS => ?_)
    exact zr_Z hx hb hr hlocks hP hS h.1 h.2 dX6_isMeasure_43
  by_cases hc2 : x0 = 2
  · have h := h.2.2.1 hc2
    refine lv_tableIn (tgt := 44) hx hb dX6_isMeasure_1 (by rw [hc2] <;> decide) (by rw [hc2] <;> decide) (by rw [hc2] <;> rfl) (by decide) ?_
    refine lv_iload_n hx hb dX6_isMeasure_44 rfl (lv_at hl 1 rfl) ?_
    refine lv_iconst (v := 1) hx hb dX6_isMeasure_45 (by decide) ?_
    refine lv_sipush (v := 200) hx hb dX6_isMeasure_46 (by decide) ?_
    refine zc_SI (As := [.int x1, .int 1, .int 200]) (rest := []) ⟨hx, hb, hml, hown, hts⟩ (va_cwS 3 hts gX6_isMeasure_X6_in rfl rfl rfl hd_X6_in ⟨Nat.le_of_ble_eq_true rfl, Nat.le_of_ble_eq_true rfl⟩) (mt_X6_in l hZ σ _ x1 1 200 _ h) hE hP hS rfl hl.1 rfl (Nat.le_of_ble_eq_true rfl) dX6_isMeasure_49 ⟨Nat.zero_le _, Nat.zero_le _⟩ (fun r49 σ49 H locs h hP hS => ?_)
    exact zr_Z hx hb hr hlocks hP hS h.1 h.2 dX6_isMeasure_52
  have h := h.2.2.2 hc0 hc1 hc2
  refine lv_tableOut (tgt := 53) hx hb dX6_isMeasure_1 (tsw3 hc0 hc1 hc2) (by decide) ?_
  refine lv_iload_n hx hb dX6_isMeasure_53 rfl (lv_at hl 0 rfl) ?_
  refine lv_iconst (v := 3) hx hb dX6_isMeasure_54 (by decide) ?_
  refine lv_icmp_ne (tgt := 72) hx hb dX6_isMeasure_55 (by decide) (fun hc => ?_) (fun hc => ?_)
  · have h := h.1 hc
    refine lv_iconst (v := 0) hx hb dX6_isMeasure_72 (by decide) ?_
    exact zr_Z hx hb hr hlocks hP hS (by decide) h dX6_isMeasure_73
  · have h := h.2 hc
    refine lv_iload_n hx hb dX6_isMeasure_58 rfl (lv_at hl 1 rfl) ?_
    refine lv_iconst (v := 0) hx hb dX6_isMeasure_59 (by decide) ?_
    refine lv_bipush (v := 30) hx hb dX6_isMeasure_60 (by decide) ?_
    refine zc_SI (As := [.int x1, .int 0, .int 30]) (rest := []) ⟨hx, hb, hml, hown, hts⟩ (va_cwS 3 hts gX6_isMeasure_X6_in rfl rfl rfl hd_X6_in ⟨Nat.le_of_ble_eq_true rfl, Nat.le_of_ble_eq_true rfl⟩) (mt_X6_in l hZ σ _ x1 0 30 _ h) hE hP hS rfl hl.1 rfl (Nat.le_of_ble_eq_true rfl) dX6_isMeasure_62 ⟨Nat.zero_le _, Nat.zero_le _⟩ (fun r62 σ62 H locs h hP hS => ?_)
    refine lv_if_eq (tgt := 72) hx hb dX6_isMeasure_65 (by decide) (fun hc => ?_) (fun hc => ?_)
    · have h := h.1 hc
      refine lv_iconst (v := 0) hx hb dX6_isMeasure_72 (by decide) ?_
      exact zr_Z hx hb hr hlocks hP hS (by decide) h dX6_isMeasure_73
    · have h := h.2 hc
      refine lv_iconst (v := 1) hx hb dX6_isMeasure_68 (by decide) ?_
      refine lv_goto (tgt := 73) hx hb dX6_isMeasure_69 (by decide) ?_
      exact zr_Z hx hb hr hlocks hP hS (by decide) h dX6_isMeasure_73
theorem hd_X6_watcher : yX6_watcher.cls = RX6 ∧ yX6_watcher.cls ≠ "java/lang/invoke/MethodHandle" ∧ yX6_watcher.cls ≠ "java/lang/invoke/VarHandle" ∧ (parseMethodDescriptor yX6_watcher.desc).map (fun d => d.parameters.length) = some 2 := by decide +kernel
set_option maxHeartbeats 4000000 in
set_option maxRecDepth 100000 in
theorem mt_X6_watcher (l : Launch) {Z : ZW} (hZ : isM Z) (σ : SS) (sz : Nat) (x1 : Int32) (x2 : Int32) (K : SS → Int32 → Prop) (h : wp_X6_watcher σ x1 x2 K) : mtZ l yX6_watcher wsX6_watcher (rm9 2 43) Z [.ref (zq Z 100), .int x1, .int x2] σ sz (qcI Z K sz) := by
  refine Met.ofW (cc := cX6_watcher) (maxL := 3) (ret := (some .int)) (by decide) rfl ?_
  intro p e s m args below meth c s₁ B hml hv
  obtain ⟨hargs, hsz, hP, hE1, hE2, hE3⟩ := hv
  subst hsz
  have hE : envZ Z s := ⟨hE1, hE2, hE3⟩
  have hx := B.exec
  have hb := B.bytes
  have hr := B.returns
  have hlocks := B.notSynchronized
  have hts := atoms_spec (ws := wsX6_watcher) B.pre
  have hown : s.vm.findClass RX6 = some m.cls := findClass_of_methodNamed B.named
  have hS : SZ Z s s.heap [] := va_S.rf
  obtain ⟨ls, hef, hl⟩ := z_entry m hargs (n := 3) (Nat.le_of_ble_eq_true rfl)
  rw [hef]
  have hl : lv_has ls 3 [(0, .ref (zq Z 100)), (1, .int x1), (2, .int x2)] := hl
  have in6 : ∀ w ∈ u_ws RX6 TX6 28, w ∈ wsX6_watcher := by decide +kernel
  have lk157 := hts (.fieldLink RX6 157 "BeatDoubtsModel" "watchers" "I") (by decide +kernel)
  have lk29 := hts (.fieldLink RX6 29 "BeatDoubtsModel" "sorts" "[I") (by decide +kernel)
  have lk32 := hts (.fieldLink RX6 32 "BeatDoubtsModel" "measures" "[I") (by decide +kernel)
  have lk35 := hts (.fieldLink RX6 35 "BeatDoubtsModel" "notices" "[I") (by decide +kernel)
  have lk38 := hts (.fieldLink RX6 38 "BeatDoubtsModel" "fews" "[I") (by decide +kernel)
  unfold wp_X6_watcher at h
  refine lv_iload_n hx hb dX6_watcher_0 rfl (lv_at hl 1 rfl) ?_
  refine lv_iload_n hx hb dX6_watcher_1 rfl (lv_at hl 2 rfl) ?_
  refine zc_SI (As := [.int x1, .int x2]) (rest := []) ⟨hx, hb, hml, hown, hts⟩ (va_cwS 2 hts gX6_watcher_X6_isMeasure rfl rfl rfl hd_X6_isMeasure ⟨Nat.le_of_ble_eq_true rfl, Nat.le_of_ble_eq_true rfl⟩) (mt_X6_isMeasure l hZ σ _ x1 x2 _ h) hE hP hS rfl hl.1 rfl (Nat.le_of_ble_eq_true rfl) dX6_watcher_2 ⟨Nat.zero_le _, Nat.zero_le _⟩ (fun r2 σ2 H locs h hP hS => ?_)
  refine lv_if_ne (tgt := 11) hx hb dX6_watcher_5 (by decide) (fun hc => ?_) (fun hc => ?_)
  · have h := h.1 hc
    refine lv_aload_n hx hb dX6_watcher_11 rfl (lv_at hl 0 rfl) ?_
    refine fg_6_12 hZ hx hb hts in6 hown hE hP kd100 lk157 dX6_watcher_12 ?_
    refine lv_iconst (v := 5) hx hb dX6_watcher_15 (by decide) ?_
    refine lv_icmp_ne (tgt := 22) hx hb dX6_watcher_16 (by decide) (fun hc => ?_) (fun hc => ?_)
    · have h := h.1 hc
      refine lv_aload_n hx hb dX6_watcher_22 rfl (lv_at hl 0 rfl) ?_
      refine fg_6_8 hZ hx hb hts in6 hown hE hP kd100 lk29 dX6_watcher_23 ?_
      refine lv_aload_n hx hb dX6_watcher_26 rfl (lv_at hl 0 rfl) ?_
      refine fg_6_12 hZ hx hb hts in6 hown hE hP kd100 lk157 dX6_watcher_27 ?_
      refine lv_iload_n hx hb dX6_watcher_30 rfl (lv_at hl 1 rfl) ?_
      obtain ⟨hin, h⟩ := h
      refine as_21 hZ hx hb hE hP hS kr_6_8 hin dX6_watcher_31 (fun H locs hP hS => ?_)
      refine lv_aload_n hx hb dX6_watcher_32 rfl (lv_at hl 0 rfl) ?_
      refine fg_6_9 hZ hx hb hts in6 hown hE hP kd100 lk32 dX6_watcher_33 ?_
      refine lv_aload_n hx hb dX6_watcher_36 rfl (lv_at hl 0 rfl) ?_
      refine fg_6_12 hZ hx hb hts in6 hown hE hP kd100 lk157 dX6_watcher_37 ?_
      refine lv_iload_n hx hb dX6_watcher_40 rfl (lv_at hl 2 rfl) ?_
      obtain ⟨hin, h⟩ := h
      refine as_21 hZ hx hb hE hP hS kr_6_9 hin dX6_watcher_41 (fun H locs hP hS => ?_)
      refine lv_aload_n hx hb dX6_watcher_42 rfl (lv_at hl 0 rfl) ?_
      refine fg_6_10 hZ hx hb hts in6 hown hE hP kd100 lk35 dX6_watcher_43 ?_
      refine lv_aload_n hx hb dX6_watcher_46 rfl (lv_at hl 0 rfl) ?_
      refine fg_6_12 hZ hx hb hts in6 hown hE hP kd100 lk157 dX6_watcher_47 ?_
      refine lv_iconst (v := (-1)) hx hb dX6_watcher_50 (by decide) ?_
      obtain ⟨hin, h⟩ := h
      refine as_21 hZ hx hb hE hP hS kr_6_10 hin dX6_watcher_51 (fun H locs hP hS => ?_)
      refine lv_aload_n hx hb dX6_watcher_52 rfl (lv_at hl 0 rfl) ?_
      refine fg_6_11 hZ hx hb hts in6 hown hE hP kd100 lk38 dX6_watcher_53 ?_
      refine lv_aload_n hx hb dX6_watcher_56 rfl (lv_at hl 0 rfl) ?_
      refine fg_6_12 hZ hx hb hts in6 hown hE hP kd100 lk157 dX6_watcher_57 ?_
      refine lv_iconst (v := (-1)) hx hb dX6_watcher_60 (by decide) ?_
      obtain ⟨hin, h⟩ := h
      refine as_21 hZ hx hb hE hP hS kr_6_11 hin dX6_watcher_61 (fun H locs hP hS => ?_)
      refine lv_aload_n hx hb dX6_watcher_62 rfl (lv_at hl 0 rfl) ?_
      refine lv_dup hx hb dX6_watcher_63 rfl ?_
      refine fg_6_12 hZ hx hb hts in6 hown hE hP kd100 lk157 dX6_watcher_64 ?_
      refine lv_iconst (v := 1) hx hb dX6_watcher_67 (by decide) ?_
      refine lv_iadd hx hb dX6_watcher_68 ?_
      refine fp_6_12 hZ hx hb hts in6 hown hE hP hS kd100 lk157 dX6_watcher_69 (fun H locs hP hS => ?_)
      refine lv_aload_n hx hb dX6_watcher_72 rfl (lv_at hl 0 rfl) ?_
      refine fg_6_12 hZ hx hb hts in6 hown hE hP kd100 lk157 dX6_watcher_73 ?_
      refine lv_iconst (v := 1) hx hb dX6_watcher_76 (by decide) ?_
      refine lv_isub hx hb dX6_watcher_77 ?_
      exact zr_I hx hb hr hlocks hP hS h dX6_watcher_78
    · have h := h.2 hc
      refine lv_bipush (v := (-4)) hx hb dX6_watcher_19 (by decide) ?_
      exact zr_I hx hb hr hlocks hP hS h dX6_watcher_21
  · have h := h.2 hc
    refine lv_bipush (v := (-2)) hx hb dX6_watcher_8 (by decide) ?_
    exact zr_I hx hb hr hlocks hP hS h dX6_watcher_10
theorem hd_X6_leaves : yX6_leaves.cls = RX6 ∧ yX6_leaves.cls ≠ "java/lang/invoke/MethodHandle" ∧ yX6_leaves.cls ≠ "java/lang/invoke/VarHandle" ∧ (parseMethodDescriptor yX6_leaves.desc).map (fun d => d.parameters.length) = some 0 := by decide +kernel
set_option maxHeartbeats 4000000 in
set_option maxRecDepth 100000 in
theorem mt_X6_leaves (l : Launch) {Z : ZW} (hZ : isM Z) (σ : SS) (sz : Nat) (K : SS → Int32 → Prop) (h : wp_X6_leaves σ K) : mtZ l yX6_leaves wsX6_leaves (rm9 0 0) Z [.ref (zq Z 100)] σ sz (qcI Z K sz) := by
  refine Met.ofW (cc := cX6_leaves) (maxL := 1) (ret := (some .int)) (by decide) rfl ?_
  intro p e s m args below meth c s₁ B hml hv
  obtain ⟨hargs, hsz, hP, hE1, hE2, hE3⟩ := hv
  subst hsz
  have hE : envZ Z s := ⟨hE1, hE2, hE3⟩
  have hx := B.exec
  have hb := B.bytes
  have hr := B.returns
  have hlocks := B.notSynchronized
  have hts := atoms_spec (ws := wsX6_leaves) B.pre
  have hown : s.vm.findClass RX6 = some m.cls := findClass_of_methodNamed B.named
  have hS : SZ Z s s.heap [] := va_S.rf
  obtain ⟨ls, hef, hl⟩ := z_entry m hargs (n := 1) (Nat.le_of_ble_eq_true rfl)
  rw [hef]
  have hl : lv_has ls 1 [(0, .ref (zq Z 100))] := hl
  have in6 : ∀ w ∈ u_ws RX6 TX6 28, w ∈ wsX6_leaves := by decide +kernel
  have lk157 := hts (.fieldLink RX6 157 "BeatDoubtsModel" "watchers" "I") (by decide +kernel)
  unfold wp_X6_leaves at h
  refine lv_aload_n hx hb dX6_leaves_0 rfl (lv_at hl 0 rfl) ?_
  refine fg_6_12 hZ hx hb hts in6 hown hE hP kd100 lk157 dX6_leaves_1 ?_
  refine lv_if_ne (tgt := 10) hx hb dX6_leaves_4 (by decide) (fun hc => ?_) (fun hc => ?_)
  · have h := h.1 hc
    refine lv_aload_n hx hb dX6_leaves_10 rfl (lv_at hl 0 rfl) ?_
    refine lv_dup hx hb dX6_leaves_11 rfl ?_
    refine fg_6_12 hZ hx hb hts in6 hown hE hP kd100 lk157 dX6_leaves_12 ?_
    refine lv_iconst (v := 1) hx hb dX6_leaves_15 (by decide) ?_
    refine lv_isub hx hb dX6_leaves_16 ?_
    refine fp_6_12 hZ hx hb hts in6 hown hE hP hS kd100 lk157 dX6_leaves_17 (fun H locs hP hS => ?_)
    refine lv_aload_n hx hb dX6_leaves_20 rfl (lv_at hl 0 rfl) ?_
    refine fg_6_12 hZ hx hb hts in6 hown hE hP kd100 lk157 dX6_leaves_21 ?_
    exact zr_I hx hb hr hlocks hP hS h dX6_leaves_24
  · have h := h.2 hc
    refine lv_bipush (v := (-3)) hx hb dX6_leaves_7 (by decide) ?_
    exact zr_I hx hb hr hlocks hP hS h dX6_leaves_9
theorem hd_X6_isWatcher : yX6_isWatcher.cls = RX6 ∧ yX6_isWatcher.cls ≠ "java/lang/invoke/MethodHandle" ∧ yX6_isWatcher.cls ≠ "java/lang/invoke/VarHandle" ∧ (parseMethodDescriptor yX6_isWatcher.desc).map (fun d => d.parameters.length) = some 1 := by decide +kernel
set_option maxHeartbeats 4000000 in
set_option maxRecDepth 100000 in
theorem mt_X6_isWatcher (l : Launch) {Z : ZW} (hZ : isM Z) (σ : SS) (sz : Nat) (x1 : Int32) (K : SS → Int32 → Prop) (h : wp_X6_isWatcher σ x1 K) : mtZ l yX6_isWatcher wsX6_isWatcher (rm9 1 22) Z [.ref (zq Z 100), .int x1] σ sz (qcI Z K sz) := by
  refine Met.ofW (cc := cX6_isWatcher) (maxL := 2) (ret := (some .boolean)) (by decide) rfl ?_
  intro p e s m args below meth c s₁ B hml hv
  obtain ⟨hargs, hsz, hP, hE1, hE2, hE3⟩ := hv
  subst hsz
  have hE : envZ Z s := ⟨hE1, hE2, hE3⟩
  have hx := B.exec
  have hb := B.bytes
  have hr := B.returns
  have hlocks := B.notSynchronized
  have hts := atoms_spec (ws := wsX6_isWatcher) B.pre
  have hown : s.vm.findClass RX6 = some m.cls := findClass_of_methodNamed B.named
  have hS : SZ Z s s.heap [] := va_S.rf
  obtain ⟨ls, hef, hl⟩ := z_entry m hargs (n := 2) (Nat.le_of_ble_eq_true rfl)
  rw [hef]
  have hl : lv_has ls 2 [(0, .ref (zq Z 100)), (1, .int x1)] := hl
  have in6 : ∀ w ∈ u_ws RX6 TX6 28, w ∈ wsX6_isWatcher := by decide +kernel
  have lk157 := hts (.fieldLink RX6 157 "BeatDoubtsModel" "watchers" "I") (by decide +kernel)
  unfold wp_X6_isWatcher at h
  refine lv_iload_n hx hb dX6_isWatcher_0 rfl (lv_at hl 1 rfl) ?_
  refine lv_iconst (v := 0) hx hb dX6_isWatcher_1 (by decide) ?_
  refine lv_aload_n hx hb dX6_isWatcher_2 rfl (lv_at hl 0 rfl) ?_
  refine fg_6_12 hZ hx hb hts in6 hown hE hP kd100 lk157 dX6_isWatcher_3 ?_
  refine lv_iconst (v := 1) hx hb dX6_isWatcher_6 (by decide) ?_
  refine lv_isub hx hb dX6_isWatcher_7 ?_
  refine zc_SI (As := [.int x1, .int 0, .int ((gI σ 100 12) - 1)]) (rest := []) ⟨hx, hb, hml, hown, hts⟩ (va_cwS 3 hts gX6_isWatcher_X6_in rfl rfl rfl hd_X6_in ⟨Nat.le_of_ble_eq_true rfl, Nat.le_of_ble_eq_true rfl⟩) (mt_X6_in l hZ σ _ x1 0 ((gI σ 100 12) - 1) _ h) hE hP hS rfl hl.1 rfl (Nat.le_of_ble_eq_true rfl) dX6_isWatcher_8 ⟨Nat.zero_le _, Nat.zero_le _⟩ (fun r8 σ8 H locs h hP hS => ?_)
  exact zr_Z hx hb hr hlocks hP hS h.1 h.2 dX6_isWatcher_11
theorem hd_X6_measure : yX6_measure.cls = RX6 ∧ yX6_measure.cls ≠ "java/lang/invoke/MethodHandle" ∧ yX6_measure.cls ≠ "java/lang/invoke/VarHandle" ∧ (parseMethodDescriptor yX6_measure.desc).map (fun d => d.parameters.length) = some 2 := by decide +kernel
set_option maxHeartbeats 4000000 in
set_option maxRecDepth 100000 in
theorem mt_X6_measure (l : Launch) {Z : ZW} (hZ : isM Z) (σ : SS) (sz : Nat) (x1 : Int32) (x2 : Int32) (K : SS → Int32 → Prop) (h : wp_X6_measure σ x1 x2 K) : mtZ l yX6_measure wsX6_measure (rm9 2 43) Z [.ref (zq Z 100), .int x1, .int x2] σ sz (qcI Z K sz) := by
  refine Met.ofW (cc := cX6_measure) (maxL := 4) (ret := (some .int)) (by decide) rfl ?_
  intro p e s m args below meth c s₁ B hml hv
  obtain ⟨hargs, hsz, hP, hE1, hE2, hE3⟩ := hv
  subst hsz
  have hE : envZ Z s := ⟨hE1, hE2, hE3⟩
  have hx := B.exec
  have hb := B.bytes
  have hr := B.returns
  have hlocks := B.notSynchronized
  have hts := atoms_spec (ws := wsX6_measure) B.pre
  have hown : s.vm.findClass RX6 = some m.cls := findClass_of_methodNamed B.named
  have hS : SZ Z s s.heap [] := va_S.rf
  obtain ⟨ls, hef, hl⟩ := z_entry m hargs (n := 4) (Nat.le_of_ble_eq_true rfl)
  rw [hef]
  have hl : lv_has ls 4 [(0, .ref (zq Z 100)), (1, .int x1), (2, .int x2)] := hl
  have in6 : ∀ w ∈ u_ws RX6 TX6 28, w ∈ wsX6_measure := by decide +kernel
  have lk29 := hts (.fieldLink RX6 29 "BeatDoubtsModel" "sorts" "[I") (by decide +kernel)
  have lk32 := hts (.fieldLink RX6 32 "BeatDoubtsModel" "measures" "[I") (by decide +kernel)
  unfold wp_X6_measure at h
  refine lv_aload_n hx hb dX6_measure_0 rfl (lv_at hl 0 rfl) ?_
  refine lv_iload_n hx hb dX6_measure_1 rfl (lv_at hl 1 rfl) ?_
  refine zc_VI (As := [.int x1]) (rest := []) ⟨hx, hb, hml, hown, hts⟩ (cwV 1 hts gX6_measure_X6_isWatcher rfl rfl rfl hd_X6_isWatcher ⟨Nat.le_of_ble_eq_true rfl, Nat.le_of_ble_eq_true rfl⟩) (mt_X6_isWatcher l hZ σ _ x1 _ h) (rc_6 hZ hE hP kd100) hE hP hS rfl hl.1 rfl (Nat.le_of_ble_eq_true rfl) dX6_measure_2 ⟨Nat.zero_le _, Nat.zero_le _⟩ (fun r2 σ2 H locs h hP hS => ?_)
  refine lv_if_eq (tgt := 21) hx hb dX6_measure_5 (by decide) (fun hc => ?_) (fun hc => ?_)
  · have h := h.1 hc
    refine lv_bipush (v := (-2)) hx hb dX6_measure_21 (by decide) ?_
    exact zr_I hx hb hr hlocks hP hS h dX6_measure_23
  · have h := h.2 hc
    refine lv_aload_n hx hb dX6_measure_8 rfl (lv_at hl 0 rfl) ?_
    refine fg_6_8 hZ hx hb hts in6 hown hE hP kd100 lk29 dX6_measure_9 ?_
    refine lv_iload_n hx hb dX6_measure_12 rfl (lv_at hl 1 rfl) ?_
    obtain ⟨hin, h⟩ := h
    refine al_21 hZ hx hb hE hP kr_6_8 hin dX6_measure_13 ?_
    refine lv_iload_n hx hb dX6_measure_14 rfl (lv_at hl 2 rfl) ?_
    refine zc_SI (As := [.int (gA σ2 104 x1.toNatClampNeg), .int x2]) (rest := []) ⟨hx, hb, hml, hown, hts⟩ (va_cwS 2 hts gX6_measure_X6_isMeasure rfl rfl rfl hd_X6_isMeasure ⟨Nat.le_of_ble_eq_true rfl, Nat.le_of_ble_eq_true rfl⟩) (mt_X6_isMeasure l hZ σ2 _ (gA σ2 104 x1.toNatClampNeg) x2 _ h) hE hP hS rfl hl.1 rfl (Nat.le_of_ble_eq_true rfl) dX6_measure_15 ⟨Nat.zero_le _, Nat.zero_le _⟩ (fun r15 σ15 H locs h hP hS => ?_)
    refine lv_if_ne (tgt := 24) hx hb dX6_measure_18 (by decide) (fun hc => ?_) (fun hc => ?_)
    · have h := h.1 hc
      refine lv_aload_n hx hb dX6_measure_24 rfl (lv_at hl 0 rfl) ?_
      refine fg_6_9 hZ hx hb hts in6 hown hE hP kd100 lk32 dX6_measure_25 ?_
      refine lv_iload_n hx hb dX6_measure_28 rfl (lv_at hl 1 rfl) ?_
      obtain ⟨hin, h⟩ := h
      refine al_21 hZ hx hb hE hP kr_6_9 hin dX6_measure_29 ?_
      refine lv_istore_n (lv' := [(3, .int (gA σ15 105 x1.toNatClampNeg)), (0, .ref (zq Z 100)), (1, .int x1), (2, .int x2)]) hx hb dX6_measure_30 rfl hl (by decide) rfl (fun ls hl => ?_)
      refine lv_aload_n hx hb dX6_measure_31 rfl (lv_at hl 1 rfl) ?_
      refine fg_6_9 hZ hx hb hts in6 hown hE hP kd100 lk32 dX6_measure_32 ?_
      refine lv_iload_n hx hb dX6_measure_35 rfl (lv_at hl 2 rfl) ?_
      refine lv_iload_n hx hb dX6_measure_36 rfl (lv_at hl 3 rfl) ?_
      obtain ⟨hin, h⟩ := h
      refine as_21 hZ hx hb hE hP hS kr_6_9 hin dX6_measure_37 (fun H locs hP hS => ?_)
      refine lv_iload_n hx hb dX6_measure_38 rfl (lv_at hl 0 rfl) ?_
      exact zr_I hx hb hr hlocks hP hS h dX6_measure_39
    · have h := h.2 hc
      refine lv_bipush (v := (-2)) hx hb dX6_measure_21 (by decide) ?_
      exact zr_I hx hb hr hlocks hP hS h dX6_measure_23
theorem hd_X6_wish : yX6_wish.cls = RX6 ∧ yX6_wish.cls ≠ "java/lang/invoke/MethodHandle" ∧ yX6_wish.cls ≠ "java/lang/invoke/VarHandle" ∧ (parseMethodDescriptor yX6_wish.desc).map (fun d => d.parameters.length) = some 3 := by decide +kernel
set_option maxHeartbeats 4000000 in
set_option maxRecDepth 100000 in
theorem mt_X6_wish (l : Launch) {Z : ZW} (hZ : isM Z) (σ : SS) (sz : Nat) (x1 : Int32) (x2 : Int32) (x3 : Int32) (K : SS → Int32 → Prop) (h : wp_X6_wish σ x1 x2 x3 K) : mtZ l yX6_wish wsX6_wish (rm9 2 43) Z [.ref (zq Z 100), .int x1, .int x2, .int x3] σ sz (qcI Z K sz) := by
  refine Met.ofW (cc := cX6_wish) (maxL := 5) (ret := (some .int)) (by decide) rfl ?_
  intro p e s m args below meth c s₁ B hml hv
  obtain ⟨hargs, hsz, hP, hE1, hE2, hE3⟩ := hv
  subst hsz
  have hE : envZ Z s := ⟨hE1, hE2, hE3⟩
  have hx := B.exec
  have hb := B.bytes
  have hr := B.returns
  have hlocks := B.notSynchronized
  have hts := atoms_spec (ws := wsX6_wish) B.pre
  have hown : s.vm.findClass RX6 = some m.cls := findClass_of_methodNamed B.named
  have hS : SZ Z s s.heap [] := va_S.rf
  obtain ⟨ls, hef, hl⟩ := z_entry m hargs (n := 5) (Nat.le_of_ble_eq_true rfl)
  rw [hef]
  have hl : lv_has ls 5 [(0, .ref (zq Z 100)), (1, .int x1), (2, .int x2), (3, .int x3)] := hl
  have in6 : ∀ w ∈ u_ws RX6 TX6 28, w ∈ wsX6_wish := by decide +kernel
  have lk35 := hts (.fieldLink RX6 35 "BeatDoubtsModel" "notices" "[I") (by decide +kernel)
  have lk38 := hts (.fieldLink RX6 38 "BeatDoubtsModel" "fews" "[I") (by decide +kernel)
  have B59 : ∀ (σ : SS) (x1 : Int32) (x2 : Int32) (x3 : Int32) (k0 : Int32) (H : Heap) (locs : List Loc) (ls : Array Slot), bl_X6_wish_59 K σ x1 x2 x3 k0 → PZ Z σ H → SZ Z s H locs → lv_has ls 5 [(0, .ref (zq Z 100)), (1, .int x1), (2, .int x2), (3, .int x3)] → W p l e (headSpec wsX6_wish (rm9 2 43)).room s m args below meth c H locs 0 0 (MQ below (qcI Z K s.heap.size) args s 0 0 (aZ Z s.heap.size)) (F0 m 59 ls [.int k0]) := by
    intro σ x1 x2 x3 k0 H locs ls h hP hS hl
    unfold bl_X6_wish_59 at h
    refine lv_istore (lv' := [(4, .int k0), (0, .ref (zq Z 100)), (1, .int x1), (2, .int x2), (3, .int x3)]) hx hb dX6_wish_59 hl (by decide) rfl (fun ls hl => ?_)
    refine lv_iload_n hx hb dX6_wish_61 rfl (lv_at hl 3 rfl) ?_
    refine lv_if_ne (tgt := 75) hx hb dX6_wish_62 (by decide) (fun hc => ?_) (fun hc => ?_)
    · have h := h.1 hc
      refine lv_aload_n hx hb dX6_wish_75 rfl (lv_at hl 1 rfl) ?_
      refine fg_6_11 hZ hx hb hts in6 hown hE hP kd100 lk38 dX6_wish_76 ?_
      refine lv_iload_n hx hb dX6_wish_79 rfl (lv_at hl 2 rfl) ?_
      refine lv_iload_n hx hb dX6_wish_80 rfl (lv_at hl 4 rfl) ?_
      obtain ⟨hin, h⟩ := h
      refine as_21 hZ hx hb hE hP hS kr_6_11 hin dX6_wish_81 (fun H locs hP hS => ?_)
      refine lv_iload hx hb dX6_wish_82 (lv_at hl 0 rfl) ?_
      exact zr_I hx hb hr hlocks hP hS h dX6_wish_84
    · have h := h.2 hc
      refine lv_aload_n hx hb dX6_wish_65 rfl (lv_at hl 1 rfl) ?_
      refine fg_6_10 hZ hx hb hts in6 hown hE hP kd100 lk35 dX6_wish_66 ?_
      refine lv_iload_n hx hb dX6_wish_69 rfl (lv_at hl 2 rfl) ?_
      refine lv_iload_n hx hb dX6_wish_70 rfl (lv_at hl 4 rfl) ?_
      obtain ⟨hin, h⟩ := h
      refine as_21 hZ hx hb hE hP hS kr_6_10 hin dX6_wish_71 (fun H locs hP hS => ?_)
      refine lv_goto (tgt := 82) hx hb dX6_wish_72 (by decide) ?_
      refine lv_iload hx hb dX6_wish_82 (lv_at hl 0 rfl) ?_
      exact zr_I hx hb hr hlocks hP hS h dX6_wish_84
  have B31 : ∀ (σ : SS) (x1 : Int32) (x2 : Int32) (x3 : Int32) (k0 : Int32) (k1 : Int32) (k2 : Int32) (H : Heap) (locs : List Loc) (ls : Array Slot), bl_X6_wish_31 K σ x1 x2 x3 k0 k1 k2 → PZ Z σ H → SZ Z s H locs → lv_has ls 5 [(0, .ref (zq Z 100)), (1, .int x1), (2, .int x2), (3, .int x3)] → W p l e (headSpec wsX6_wish (rm9 2 43)).room s m args below meth c H locs 0 0 (MQ below (qcI Z K s.heap.size) args s 0 0 (aZ Z s.heap.size)) (F0 m 31 ls [.int k0, .int k1, .int k2]) := by
    intro σ x1 x2 x3 k0 k1 k2 H locs ls h hP hS hl
    unfold bl_X6_wish_31 at h
    refine zc_SI (As := [.int k2, .int k1, .int k0]) (rest := []) ⟨hx, hb, hml, hown, hts⟩ (va_cwS 3 hts gX6_wish_X6_in rfl rfl rfl hd_X6_in ⟨Nat.le_of_ble_eq_true rfl, Nat.le_of_ble_eq_true rfl⟩) (mt_X6_in l hZ σ _ k2 k1 k0 _ h) hE hP hS rfl hl.1 rfl (Nat.le_of_ble_eq_true rfl) dX6_wish_31 ⟨Nat.zero_le _, Nat.zero_le _⟩ (fun r31 σ31 H locs h hP hS => ?_)
    refine lv_if_ne (tgt := 40) hx hb dX6_wish_34 (by decide) (fun hc => ?_) (fun hc => ?_)
    · have h := h.1 hc
      refine lv_iload_n hx hb dX6_wish_40 rfl (lv_at hl 2 rfl) ?_
      refine lv_if_ne (tgt := 53) hx hb dX6_wish_41 (by decide) (fun hc => ?_) (fun hc => ?_)
      · have h := h.1 hc
        refine lv_aload_n hx hb dX6_wish_53 rfl (lv_at hl 0 rfl) ?_
        refine fg_6_11 hZ hx hb hts in6 hown hE hP kd100 lk38 dX6_wish_54 ?_
        refine lv_iload_n hx hb dX6_wish_57 rfl (lv_at hl 1 rfl) ?_
        obtain ⟨hin, h⟩ := h
        refine al_21 hZ hx hb hE hP kr_6_11 hin dX6_wish_58 ?_
        exact B59 σ31 x1 x2 x3 (gA σ31 107 x1.toNatClampNeg) _ _ _ h hP hS (lv_sub hl [0, 1, 2, 3] rfl)
      · have h := h.2 hc
        refine lv_aload_n hx hb dX6_wish_44 rfl (lv_at hl 0 rfl) ?_
        refine fg_6_10 hZ hx hb hts in6 hown hE hP kd100 lk35 dX6_wish_45 ?_
        refine lv_iload_n hx hb dX6_wish_48 rfl (lv_at hl 1 rfl) ?_
        obtain ⟨hin, h⟩ := h
        refine al_21 hZ hx hb hE hP kr_6_10 hin dX6_wish_49 ?_
        refine lv_goto (tgt := 59) hx hb dX6_wish_50 (by decide) ?_
        exact B59 σ31 x1 x2 x3 (gA σ31 106 x1.toNatClampNeg) _ _ _ h hP hS (lv_sub hl [0, 1, 2, 3] rfl)
    · have h := h.2 hc
      refine lv_bipush (v := (-2)) hx hb dX6_wish_37 (by decide) ?_
      exact zr_I hx hb hr hlocks hP hS h dX6_wish_39
  unfold wp_X6_wish at h
  refine lv_aload_n hx hb dX6_wish_0 rfl (lv_at hl 0 rfl) ?_
  refine lv_iload_n hx hb dX6_wish_1 rfl (lv_at hl 1 rfl) ?_
  refine zc_VI (As := [.int x1]) (rest := []) ⟨hx, hb, hml, hown, hts⟩ (cwV 1 hts gX6_wish_X6_isWatcher rfl rfl rfl hd_X6_isWatcher ⟨Nat.le_of_ble_eq_true rfl, Nat.le_of_ble_eq_true rfl⟩) (mt_X6_isWatcher l hZ σ _ x1 _ h) (rc_6 hZ hE hP kd100) hE hP hS rfl hl.1 rfl (Nat.le_of_ble_eq_true rfl) dX6_wish_2 ⟨Nat.zero_le _, Nat.zero_le _⟩ (fun r2 σ2 H locs h hP hS => ?_)
  refine lv_if_eq (tgt := 37) hx hb dX6_wish_5 (by decide) (fun hc => ?_) (fun hc => ?_)
  · have h := h.1 hc
    refine lv_bipush (v := (-2)) hx hb dX6_wish_37 (by decide) ?_
    exact zr_I hx hb hr hlocks hP hS h dX6_wish_39
  · have h := h.2 hc
    refine lv_iload_n hx hb dX6_wish_8 rfl (lv_at hl 2 rfl) ?_
    refine lv_iconst (v := 0) hx hb dX6_wish_9 (by decide) ?_
    refine lv_iconst (v := 1) hx hb dX6_wish_10 (by decide) ?_
    refine zc_SI (As := [.int x2, .int 0, .int 1]) (rest := []) ⟨hx, hb, hml, hown, hts⟩ (va_cwS 3 hts gX6_wish_X6_in rfl rfl rfl hd_X6_in ⟨Nat.le_of_ble_eq_true rfl, Nat.le_of_ble_eq_true rfl⟩) (mt_X6_in l hZ σ2 _ x2 0 1 _ h) hE hP hS rfl hl.1 rfl (Nat.le_of_ble_eq_true rfl) dX6_wish_11 ⟨Nat.zero_le _, Nat.zero_le _⟩ (fun r11 σ11 H locs h hP hS => ?_)
    refine lv_if_eq (tgt := 37) hx hb dX6_wish_14 (by decide) (fun hc => ?_) (fun hc => ?_)
    · have h := h.1 hc
      refine lv_bipush (v := (-2)) hx hb dX6_wish_37 (by decide) ?_
      exact zr_I hx hb hr hlocks hP hS h dX6_wish_39
    · have h := h.2 hc
      refine lv_iload_n hx hb dX6_wish_17 rfl (lv_at hl 3 rfl) ?_
      refine lv_iconst (v := (-1)) hx hb dX6_wish_18 (by decide) ?_
      refine lv_iload_n hx hb dX6_wish_19 rfl (lv_at hl 2 rfl) ?_
      refine lv_if_ne (tgt := 29) hx hb dX6_wish_20 (by decide) (fun hc => ?_) (fun hc => ?_)
      · have h := h.1 hc
        refine lv_bipush (v := 40) hx hb dX6_wish_29 (by decide) ?_
        exact B31 σ11 x1 x2 x3 40 (-1) x3 _ _ _ h hP hS (lv_sub hl [0, 1, 2, 3] rfl)
      · have h := h.2 hc
        refine lv_sipush (v := 500) hx hb dX6_wish_23 (by decide) ?_
        refine lv_goto (tgt := 31) hx hb dX6_wish_26 (by decide) ?_
        exact B31 σ11 x1 x2 x3 500 (-1) x3 _ _ _ h hP hS (lv_sub hl [0, 1, 2, 3] rfl)
theorem hd_X6_up : yX6_up.cls ≠ "java/lang/invoke/MethodHandle" ∧ yX6_up.cls ≠ "java/lang/invoke/VarHandle" ∧ (parseMethodDescriptor yX6_up.desc).map (fun d => d.parameters.length) = some 2 := by decide +kernel
set_option maxHeartbeats 4000000 in
set_option maxRecDepth 100000 in
theorem mt_X6_up (l : Launch) {Z : ZW} (hZ : isM Z) (σ : SS) (sz : Nat) (x0 : Int32) (x1 : Int32) (K : SS → Int32 → Prop) (h : wp_X6_up σ x0 x1 K) : mtZ l yX6_up wsX6_up (rm9 0 0) Z [.int x0, .int x1] σ sz (qcI Z K sz) := by
  refine Met.ofW (cc := cX6_up) (maxL := 2) (ret := (some .int)) (by decide) rfl ?_
  intro p e s m args below meth c s₁ B hml hv
  obtain ⟨hargs, hsz, hP, hE1, hE2, hE3⟩ := hv
  subst hsz
  have hE : envZ Z s := ⟨hE1, hE2, hE3⟩
  have hx := B.exec
  have hb := B.bytes
  have hr := B.returns
  have hlocks := B.notSynchronized
  have hts := atoms_spec (ws := wsX6_up) B.pre
  have hown : s.vm.findClass RX6 = some m.cls := findClass_of_methodNamed B.named
  have hS : SZ Z s s.heap [] := va_S.rf
  obtain ⟨ls, hef, hl⟩ := z_entry m hargs (n := 2) (Nat.le_of_ble_eq_true rfl)
  rw [hef]
  have hl : lv_has ls 2 [(0, .int x0), (1, .int x1)] := hl
  unfold wp_X6_up at h
  refine lv_iload_n hx hb dX6_up_0 rfl (lv_at hl 0 rfl) ?_
  refine lv_iload_n hx hb dX6_up_1 rfl (lv_at hl 1 rfl) ?_
  refine lv_iadd hx hb dX6_up_2 ?_
  refine lv_iconst (v := 1) hx hb dX6_up_3 (by decide) ?_
  refine lv_isub hx hb dX6_up_4 ?_
  refine lv_iload_n hx hb dX6_up_5 rfl (lv_at hl 1 rfl) ?_
  obtain ⟨hne, h⟩ := h
  refine lv_idiv hx hb dX6_up_6 hne ?_
  exact zr_I hx hb hr hlocks hP hS h dX6_up_7
theorem hd_X6_tenthsBy : yX6_tenthsBy.cls = RX6 ∧ yX6_tenthsBy.cls ≠ "java/lang/invoke/MethodHandle" ∧ yX6_tenthsBy.cls ≠ "java/lang/invoke/VarHandle" ∧ (parseMethodDescriptor yX6_tenthsBy.desc).map (fun d => d.parameters.length) = some 2 := by decide +kernel
set_option maxHeartbeats 4000000 in
set_option maxRecDepth 100000 in
theorem mt_X6_tenthsBy (l : Launch) {Z : ZW} (hZ : isM Z) (σ : SS) (sz : Nat) (x1 : Int32) (x2 : Int32) (K : SS → Int32 → Prop) (h : wp_X6_tenthsBy σ x1 x2 K) : mtZ l yX6_tenthsBy wsX6_tenthsBy (rm9 2 46) Z [.ref (zq Z 100), .int x1, .int x2] σ sz (qcI Z K sz) := by
  refine Met.ofW (cc := cX6_tenthsBy) (maxL := 7) (ret := (some .int)) (by decide) rfl ?_
  intro p e s m args below meth c s₁ B hml hv
  obtain ⟨hargs, hsz, hP, hE1, hE2, hE3⟩ := hv
  subst hsz
  have hE : envZ Z s := ⟨hE1, hE2, hE3⟩
  have hx := B.exec
  have hb := B.bytes
  have hr := B.returns
  have hlocks := B.notSynchronized
  have hts := atoms_spec (ws := wsX6_tenthsBy) B.pre
  have hown : s.vm.findClass RX6 = some m.cls := findClass_of_methodNamed B.named
  have hS : SZ Z s s.heap [] := va_S.rf
  obtain ⟨ls, hef, hl⟩ := z_entry m hargs (n := 7) (Nat.le_of_ble_eq_true rfl)
  rw [hef]
  have hl : lv_has ls 7 [(0, .ref (zq Z 100)), (1, .int x1), (2, .int x2)] := hl
  have B5 : ∀ (n : Nat) (σ : SS) (x1 : Int32) (x2 : Int32) (x3 : Int32) (x4 : Int32) (H : Heap) (locs : List Loc) (ls : Array Slot), fx5 (lb_X6_tenthsBy_5 K) n σ x1 x2 x3 x4 → PZ Z σ H → SZ Z s H locs → lv_has ls 7 [(0, .ref (zq Z 100)), (1, .int x1), (2, .int x2), (3, .int x3), (4, .int x4)] → W p l e (headSpec wsX6_tenthsBy (rm9 2 46)).room s m args below meth c H locs 0 0 (MQ below (qcI Z K s.heap.size) args s 0 0 (aZ Z s.heap.size)) (F0 m 5 ls []) := by
    intro n5
    induction n5 with
    | zero => intro σ x1 x2 x3 x4 H locs ls h; exact h.elim
    | succ n5 ih5 =>
      have B51 : ∀ (σ : SS) (x1 : Int32) (x2 : Int32) (x3 : Int32) (x4 : Int32) (x5 : Int32) (k0 : Int32) (H : Heap) (locs : List Loc) (ls : Array Slot), bl_X6_tenthsBy_51 K (fx5 (lb_X6_tenthsBy_5 K) n5) σ x1 x2 x3 x4 x5 k0 → PZ Z σ H → SZ Z s H locs → lv_has ls 7 [(0, .ref (zq Z 100)), (1, .int x1), (2, .int x2), (3, .int x3), (4, .int x4), (5, .int x5)] → W p l e (headSpec wsX6_tenthsBy (rm9 2 46)).room s m args below meth c H locs 0 0 (MQ below (qcI Z K s.heap.size) args s 0 0 (aZ Z s.heap.size)) (F0 m 51 ls [.int k0]) := by
        intro σ x1 x2 x3 x4 x5 k0 H locs ls h hP hS hl
        unfold bl_X6_tenthsBy_51 at h
        refine lv_istore (lv' := [(6, .int k0), (0, .ref (zq Z 100)), (1, .int x1), (2, .int x2), (3, .int x3), (4, .int x4), (5, .int x5)]) hx hb dX6_tenthsBy_51 hl (by decide) rfl (fun ls hl => ?_)
        refine lv_iload hx hb dX6_tenthsBy_53 (lv_at hl 0 rfl) ?_
        refine lv_if_eq (tgt := 74) hx hb dX6_tenthsBy_55 (by decide) (fun hc => ?_) (fun hc => ?_)
        · have h := h.1 hc
          refine lv_iload_n hx hb dX6_tenthsBy_74 rfl (lv_at hl 4 rfl) ?_
          refine lv_istore_n (lv' := [(3, .int x3), (6, .int k0), (0, .ref (zq Z 100)), (1, .int x1), (2, .int x2), (4, .int x4), (5, .int x5)]) hx hb dX6_tenthsBy_75 rfl hl (by decide) rfl (fun ls hl => ?_)
          refine lv_iinc (v := (x4 + 1)) (lv' := [(4, .int (x4 + 1)), (3, .int x3), (6, .int k0), (0, .ref (zq Z 100)), (1, .int x1), (2, .int x2), (5, .int x5)]) hx hb dX6_tenthsBy_76 hl (k := 5) rfl rfl (by decide) rfl (fun ls hl => ?_)
          refine lv_goto (tgt := 5) hx hb dX6_tenthsBy_79 (by decide) ?_
          exact ih5 σ x1 x2 x3 (x4 + 1) _ _ _ h hP hS (lv_sub hl [3, 4, 5, 1, 0] rfl)
        · have h := h.2 hc
          refine lv_iload_n hx hb dX6_tenthsBy_58 rfl (lv_at hl 4 rfl) ?_
          refine lv_iconst (v := (-1)) hx hb dX6_tenthsBy_59 (by decide) ?_
          refine lv_icmp_eq (tgt := 69) hx hb dX6_tenthsBy_60 (by decide) (fun hc => ?_) (fun hc => ?_)
          · have h := h.1 hc
            refine lv_iload hx hb dX6_tenthsBy_69 (lv_at hl 6 rfl) ?_
            refine lv_goto (tgt := 75) hx hb dX6_tenthsBy_71 (by decide) ?_
            refine lv_istore_n (lv' := [(3, .int x5), (6, .int k0), (0, .ref (zq Z 100)), (1, .int x1), (2, .int x2), (4, .int x4), (5, .int x5)]) hx hb dX6_tenthsBy_75 rfl hl (by decide) rfl (fun ls hl => ?_)
            refine lv_iinc (v := (x4 + 1)) (lv' := [(4, .int (x4 + 1)), (3, .int x5), (6, .int k0), (0, .ref (zq Z 100)), (1, .int x1), (2, .int x2), (5, .int x5)]) hx hb dX6_tenthsBy_76 hl (k := 5) rfl rfl (by decide) rfl (fun ls hl => ?_)
            refine lv_goto (tgt := 5) hx hb dX6_tenthsBy_79 (by decide) ?_
            exact ih5 σ x1 x2 x5 (x4 + 1) _ _ _ h hP hS (lv_sub hl [3, 4, 5, 1, 0] rfl)
          · have h := h.2 hc
            refine lv_iload hx hb dX6_tenthsBy_63 (lv_at hl 6 rfl) ?_
            refine lv_iload_n hx hb dX6_tenthsBy_65 rfl (lv_at hl 4 rfl) ?_
            refine lv_icmp_ge (tgt := 74) hx hb dX6_tenthsBy_66 (by decide) (fun hc => ?_) (fun hc => ?_)
            · have h := h.1 hc
              refine lv_iload_n hx hb dX6_tenthsBy_74 rfl (lv_at hl 4 rfl) ?_
              refine lv_istore_n (lv' := [(3, .int x3), (6, .int k0), (0, .ref (zq Z 100)), (1, .int x1), (2, .int x2), (4, .int x4), (5, .int x5)]) hx hb dX6_tenthsBy_75 rfl hl (by decide) rfl (fun ls hl => ?_)
              refine lv_iinc (v := (x4 + 1)) (lv' := [(4, .int (x4 + 1)), (3, .int x3), (6, .int k0), (0, .ref (zq Z 100)), (1, .int x1), (2, .int x2), (5, .int x5)]) hx hb dX6_tenthsBy_76 hl (k := 5) rfl rfl (by decide) rfl (fun ls hl => ?_)
              refine lv_goto (tgt := 5) hx hb dX6_tenthsBy_79 (by decide) ?_
              exact ih5 σ x1 x2 x3 (x4 + 1) _ _ _ h hP hS (lv_sub hl [3, 4, 5, 1, 0] rfl)
            · have h := h.2 hc
              refine lv_iload hx hb dX6_tenthsBy_69 (lv_at hl 6 rfl) ?_
              refine lv_goto (tgt := 75) hx hb dX6_tenthsBy_71 (by decide) ?_
              refine lv_istore_n (lv' := [(3, .int x5), (6, .int k0), (0, .ref (zq Z 100)), (1, .int x1), (2, .int x2), (4, .int x4), (5, .int x5)]) hx hb dX6_tenthsBy_75 rfl hl (by decide) rfl (fun ls hl => ?_)
              refine lv_iinc (v := (x4 + 1)) (lv' := [(4, .int (x4 + 1)), (3, .int x5), (6, .int k0), (0, .ref (zq Z 100)), (1, .int x1), (2, .int x2), (5, .int x5)]) hx hb dX6_tenthsBy_76 hl (k := 5) rfl rfl (by decide) rfl (fun ls hl => ?_)
              refine lv_goto (tgt := 5) hx hb dX6_tenthsBy_79 (by decide) ?_
              exact ih5 σ x1 x2 x5 (x4 + 1) _ _ _ h hP hS (lv_sub hl [3, 4, 5, 1, 0] rfl)
      intro σ x1 x2 x3 x4 H locs ls h hP hS hl
      have h : lb_X6_tenthsBy_5 K (fx5 (lb_X6_tenthsBy_5 K) n5) σ x1 x2 x3 x4 := h
      unfold lb_X6_tenthsBy_5 at h
      refine lv_iload hx hb dX6_tenthsBy_5 (lv_at hl 4 rfl) ?_
      refine lv_aload_n hx hb dX6_tenthsBy_7 rfl (lv_at hl 0 rfl) ?_
      refine lv_iload_n hx hb dX6_tenthsBy_8 rfl (lv_at hl 1 rfl) ?_
      refine zc_VI (As := [.int x1]) (rest := [.int x4]) ⟨hx, hb, hml, hown, hts⟩ (cwV 1 hts gX6_tenthsBy_X6_gapsBy rfl rfl rfl hd_X6_gapsBy ⟨Nat.le_of_ble_eq_true rfl, Nat.le_of_ble_eq_true rfl⟩) (mt_X6_gapsBy l hZ σ _ x1 _ h) (rc_6 hZ hE hP kd100) hE hP hS rfl hl.1 rfl (Nat.le_of_ble_eq_true rfl) dX6_tenthsBy_9 ⟨Nat.zero_le _, Nat.zero_le _⟩ (fun r9 σ9 H locs h hP hS => ?_)
      refine lv_icmp_ge (tgt := 82) hx hb dX6_tenthsBy_12 (by decide) (fun hc => ?_) (fun hc => ?_)
      · have h := h.1 hc
        refine lv_iload_n hx hb dX6_tenthsBy_82 rfl (lv_at hl 3 rfl) ?_
        exact zr_I hx hb hr hlocks hP hS h dX6_tenthsBy_83
      · have h := h.2 hc
        refine lv_aload_n hx hb dX6_tenthsBy_15 rfl (lv_at hl 0 rfl) ?_
        refine lv_iload_n hx hb dX6_tenthsBy_16 rfl (lv_at hl 1 rfl) ?_
        refine lv_iload hx hb dX6_tenthsBy_17 (lv_at hl 4 rfl) ?_
        refine zc_VI (As := [.int x1, .int x4]) (rest := []) ⟨hx, hb, hml, hown, hts⟩ (cwV 2 hts gX6_tenthsBy_X6_gapAt rfl rfl rfl hd_X6_gapAt ⟨Nat.le_of_ble_eq_true rfl, Nat.le_of_ble_eq_true rfl⟩) (mt_X6_gapAt l hZ σ9 _ x1 x4 _ h) (rc_6 hZ hE hP kd100) hE hP hS rfl hl.1 rfl (Nat.le_of_ble_eq_true rfl) dX6_tenthsBy_19 ⟨Nat.zero_le _, Nat.zero_le _⟩ (fun r19 σ19 H locs h hP hS => ?_)
        refine lv_istore (lv' := [(5, .int r19), (0, .ref (zq Z 100)), (1, .int x1), (2, .int x2), (3, .int x3), (4, .int x4)]) hx hb dX6_tenthsBy_22 hl (by decide) rfl (fun ls hl => ?_)
        refine lv_bipush (v := 10) hx hb dX6_tenthsBy_24 (by decide) ?_
        refine lv_aload_n hx hb dX6_tenthsBy_26 rfl (lv_at hl 1 rfl) ?_
        refine lv_iload_n hx hb dX6_tenthsBy_27 rfl (lv_at hl 2 rfl) ?_
        refine lv_iload hx hb dX6_tenthsBy_28 (lv_at hl 0 rfl) ?_
        refine lv_iconst (v := 1) hx hb dX6_tenthsBy_30 (by decide) ?_
        refine lv_iadd hx hb dX6_tenthsBy_31 ?_
        refine zc_VI (As := [.int x1, .int (r19 + 1)]) (rest := [.int 10]) ⟨hx, hb, hml, hown, hts⟩ (cwV 2 hts gX6_tenthsBy_X6_lessThan rfl rfl rfl hd_X6_lessThan ⟨Nat.le_of_ble_eq_true rfl, Nat.le_of_ble_eq_true rfl⟩) (mt_X6_lessThan l hZ σ19 _ x1 (r19 + 1) _ h) (rc_6 hZ hE hP kd100) hE hP hS rfl hl.1 rfl (Nat.le_of_ble_eq_true rfl) dX6_tenthsBy_32 ⟨Nat.zero_le _, Nat.zero_le _⟩ (fun r32 σ32 H locs h hP hS => ?_)
        refine lv_imul hx hb dX6_tenthsBy_35 ?_
        refine lv_iload_n hx hb dX6_tenthsBy_36 rfl (lv_at hl 3 rfl) ?_
        refine lv_aload_n hx hb dX6_tenthsBy_37 rfl (lv_at hl 1 rfl) ?_
        refine lv_iload_n hx hb dX6_tenthsBy_38 rfl (lv_at hl 2 rfl) ?_
        refine zc_VI (As := [.int x1]) (rest := [.int x2, .int (10 * r32)]) ⟨hx, hb, hml, hown, hts⟩ (cwV 1 hts gX6_tenthsBy_X6_gapsBy rfl rfl rfl hd_X6_gapsBy ⟨Nat.le_of_ble_eq_true rfl, Nat.le_of_ble_eq_true rfl⟩) (mt_X6_gapsBy l hZ σ32 _ x1 _ h) (rc_6 hZ hE hP kd100) hE hP hS rfl hl.1 rfl (Nat.le_of_ble_eq_true rfl) dX6_tenthsBy_39 ⟨Nat.zero_le _, Nat.zero_le _⟩ (fun r39 σ39 H locs h hP hS => ?_)
        refine lv_imul hx hb dX6_tenthsBy_42 ?_
        refine lv_icmp_lt (tgt := 50) hx hb dX6_tenthsBy_43 (by decide) (fun hc => ?_) (fun hc => ?_)
        · have h := h.1 hc
          refine lv_iconst (v := 0) hx hb dX6_tenthsBy_50 (by decide) ?_
          exact B51 σ39 x1 x2 x3 x4 r19 0 _ _ _ h hP hS (lv_sub hl [1, 2, 3, 4, 5, 0] rfl)
        · have h := h.2 hc
          refine lv_iconst (v := 1) hx hb dX6_tenthsBy_46 (by decide) ?_
          refine lv_goto (tgt := 51) hx hb dX6_tenthsBy_47 (by decide) ?_
          exact B51 σ39 x1 x2 x3 x4 r19 1 _ _ _ h hP hS (lv_sub hl [1, 2, 3, 4, 5, 0] rfl)
  unfold wp_X6_tenthsBy at h
  refine lv_iconst (v := (-1)) hx hb dX6_tenthsBy_0 (by decide) ?_
  refine lv_istore_n (lv' := [(3, .int (-1)), (0, .ref (zq Z 100)), (1, .int x1), (2, .int x2)]) hx hb dX6_tenthsBy_1 rfl hl (by decide) rfl (fun ls hl => ?_)
  refine lv_iconst (v := 0) hx hb dX6_tenthsBy_2 (by decide) ?_
  refine lv_istore (lv' := [(4, .int 0), (3, .int (-1)), (0, .ref (zq Z 100)), (1, .int x1), (2, .int x2)]) hx hb dX6_tenthsBy_3 hl (by decide) rfl (fun ls hl => ?_)
  obtain ⟨n, h⟩ := h
  exact B5 n σ x1 x2 (-1) 0 _ _ _ h hP hS (lv_sub hl [2, 3, 4, 1, 0] rfl)
theorem hd_X6_limitBy : yX6_limitBy.cls = RX6 ∧ yX6_limitBy.cls ≠ "java/lang/invoke/MethodHandle" ∧ yX6_limitBy.cls ≠ "java/lang/invoke/VarHandle" ∧ (parseMethodDescriptor yX6_limitBy.desc).map (fun d => d.parameters.length) = some 3 := by decide +kernel
set_option maxHeartbeats 4000000 in
set_option maxRecDepth 100000 in
theorem mt_X6_limitBy (l : Launch) {Z : ZW} (hZ : isM Z) (σ : SS) (sz : Nat) (x1 : Int32) (x2 : Int32) (x3 : Int32) (K : SS → Int32 → Prop) (h : wp_X6_limitBy σ x1 x2 x3 K) : mtZ l yX6_limitBy wsX6_limitBy (rm9 3 72) Z [.ref (zq Z 100), .int x1, .int x2, .int x3] σ sz (qcI Z K sz) := by
  refine Met.ofW (cc := cX6_limitBy) (maxL := 5) (ret := (some .int)) (by decide) rfl ?_
  intro p e s m args below meth c s₁ B hml hv
  obtain ⟨hargs, hsz, hP, hE1, hE2, hE3⟩ := hv
  subst hsz
  have hE : envZ Z s := ⟨hE1, hE2, hE3⟩
  have hx := B.exec
  have hb := B.bytes
  have hr := B.returns
  have hlocks := B.notSynchronized
  have hts := atoms_spec (ws := wsX6_limitBy) B.pre
  have hown : s.vm.findClass RX6 = some m.cls := findClass_of_methodNamed B.named
  have hS : SZ Z s s.heap [] := va_S.rf
  obtain ⟨ls, hef, hl⟩ := z_entry m hargs (n := 5) (Nat.le_of_ble_eq_true rfl)
  rw [hef]
  have hl : lv_has ls 5 [(0, .ref (zq Z 100)), (1, .int x1), (2, .int x2), (3, .int x3)] := hl
  have in6 : ∀ w ∈ u_ws RX6 TX6 28, w ∈ wsX6_limitBy := by decide +kernel
  have lk169 := hts (.fieldLink RX6 169 "BeatDoubtsModel" "mistakes" "I") (by decide +kernel)
  have lk26 := hts (.fieldLink RX6 26 "BeatDoubtsModel" "newsTimes" "[I") (by decide +kernel)
  unfold wp_X6_limitBy at h
  refine lv_aload_n hx hb dX6_limitBy_0 rfl (lv_at hl 0 rfl) ?_
  refine fg_6_6 hZ hx hb hts in6 hown hE hP kd100 lk26 dX6_limitBy_1 ?_
  refine lv_iload_n hx hb dX6_limitBy_4 rfl (lv_at hl 3 rfl) ?_
  obtain ⟨hin, h⟩ := h
  refine al_20 hZ hx hb hE hP kr_6_6 hin dX6_limitBy_5 ?_
  refine lv_istore (lv' := [(4, .int (gA σ 103 x3.toNatClampNeg)), (0, .ref (zq Z 100)), (1, .int x1), (2, .int x2), (3, .int x3)]) hx hb dX6_limitBy_6 hl (by decide) rfl (fun ls hl => ?_)
  refine lv_iload_n hx hb dX6_limitBy_8 rfl (lv_at hl 2 rfl) ?_
  by_cases hc0 : x1 = 0
  · have h := h.1 hc0
    refine lv_tableIn (tgt := 36) hx hb dX6_limitBy_9 (by rw [hc0] <;> decide) (by rw [hc0] <;> decide) (by rw [hc0] <;> rfl) (by decide) ?_
    refine lv_aload_n hx hb dX6_limitBy_36 rfl (lv_at hl 1 rfl) ?_
    refine lv_iload_n hx hb dX6_limitBy_37 rfl (lv_at hl 4 rfl) ?_
    refine zc_VI (As := [.int x3]) (rest := []) ⟨hx, hb, hml, hown, hts⟩ (cwV 1 hts gX6_limitBy_X6_aboveBy rfl rfl rfl hd_X6_aboveBy ⟨Nat.le_of_ble_eq_true rfl, Nat.le_of_ble_eq_true rfl⟩) (mt_X6_aboveBy l hZ σ _ x3 _ h) (rc_6 hZ hE hP kd100) hE hP hS rfl hl.1 rfl (Nat.le_of_ble_eq_true rfl) dX6_limitBy_38 ⟨Nat.zero_le _, Nat.zero_le _⟩ (fun r38 σ38 H locs h hP hS => ?_)
    refine lv_aload_n hx hb dX6_limitBy_41 rfl (lv_at hl 1 rfl) ?_
    refine lv_iload_n hx hb dX6_limitBy_42 rfl (lv_at hl 4 rfl) ?_
    refine zc_VI (As := [.int x3]) (rest := [.int r38]) ⟨hx, hb, hml, hown, hts⟩ (cwV 1 hts gX6_limitBy_X6_belowBy rfl rfl rfl hd_X6_belowBy ⟨Nat.le_of_ble_eq_true rfl, Nat.le_of_ble_eq_true rfl⟩) (mt_X6_belowBy l hZ σ38 _ x3 _ h) (rc_6 hZ hE hP kd100) hE hP hS rfl hl.1 rfl (Nat.le_of_ble_eq_true rfl) dX6_limitBy_43 ⟨Nat.zero_le _, Nat.zero_le _⟩ (fun r43 σ43 H locs h hP hS => ?_)
    refine zc_SI (As := [.int r38, .int r43]) (rest := []) ⟨hx, hb, hml, hown, hts⟩ (va_cwS 2 hts gX6_limitBy_X6_up rfl rfl rfl hd_X6_up ⟨Nat.le_of_ble_eq_true rfl, Nat.le_of_ble_eq_true rfl⟩) (mt_X6_up l hZ σ43 _ r38 r43 _ h) hE hP hS rfl hl.1 rfl (Nat.le_of_ble_eq_true rfl) dX6_limitBy_46 ⟨Nat.zero_le _, Nat.zero_le _⟩ (fun r46 σ46 H locs h hP hS => ?_)
    refine lv_iload_n hx hb dX6_limitBy_49 rfl (lv_at hl 3 rfl) ?_
    refine lv_iadd hx hb dX6_limitBy_50 ?_
    exact zr_I hx hb hr hlocks hP hS h dX6_limitBy_51
  by_cases hc1 : x1 = 1
  · have h := h.2.1 hc1
    refine lv_tableIn (tgt := 52) hx hb dX6_limitBy_9 (by rw [hc1] <;> decide) (by rw [hc1] <;> decide) (by rw [hc1] <;> rfl) (by decide) ?_
    refine lv_aload_n hx hb dX6_limitBy_52 rfl (lv_at hl 1 rfl) ?_
    refine lv_iload_n hx hb dX6_limitBy_53 rfl (lv_at hl 4 rfl) ?_
    refine zc_VI (As := [.int x3]) (rest := []) ⟨hx, hb, hml, hown, hts⟩ (cwV 1 hts gX6_limitBy_X6_gapsBy rfl rfl rfl hd_X6_gapsBy ⟨Nat.le_of_ble_eq_true rfl, Nat.le_of_ble_eq_true rfl⟩) (mt_X6_gapsBy l hZ σ _ x3 _ h) (rc_6 hZ hE hP kd100) hE hP hS rfl hl.1 rfl (Nat.le_of_ble_eq_true rfl) dX6_limitBy_54 ⟨Nat.zero_le _, Nat.zero_le _⟩ (fun r54 σ54 H locs h hP hS => ?_)
    refine lv_if_ne (tgt := 64) hx hb dX6_limitBy_57 (by decide) (fun hc => ?_) (fun hc => ?_)
    · have h := h.1 hc
      refine lv_iload hx hb dX6_limitBy_64 (lv_at hl 0 rfl) ?_
      refine lv_aload_n hx hb dX6_limitBy_66 rfl (lv_at hl 1 rfl) ?_
      refine lv_iload_n hx hb dX6_limitBy_67 rfl (lv_at hl 4 rfl) ?_
      refine lv_iload_n hx hb dX6_limitBy_68 rfl (lv_at hl 3 rfl) ?_
      refine zc_VI (As := [.int x3, .int x2]) (rest := [.int (gA σ 103 x3.toNatClampNeg)]) ⟨hx, hb, hml, hown, hts⟩ (cwV 2 hts gX6_limitBy_X6_tenthsBy rfl rfl rfl hd_X6_tenthsBy ⟨Nat.le_of_ble_eq_true rfl, Nat.le_of_ble_eq_true rfl⟩) (mt_X6_tenthsBy l hZ σ54 _ x3 x2 _ h) (rc_6 hZ hE hP kd100) hE hP hS rfl hl.1 rfl (Nat.le_of_ble_eq_true rfl) dX6_limitBy_69 ⟨Nat.zero_le _, Nat.zero_le _⟩ (fun r69 σ69 H locs h hP hS => ?_)
      refine lv_iadd hx hb dX6_limitBy_72 ?_
      refine lv_iconst (v := 1) hx hb dX6_limitBy_73 (by decide) ?_
      refine lv_iadd hx hb dX6_limitBy_74 ?_
      exact zr_I hx hb hr hlocks hP hS h dX6_limitBy_75
    · have h := h.2 hc
      refine lv_iconst (v := (-1)) hx hb dX6_limitBy_60 (by decide) ?_
      refine lv_goto (tgt := 75) hx hb dX6_limitBy_61 (by decide) ?_
      exact zr_I hx hb hr hlocks hP hS h dX6_limitBy_75
  by_cases hc2 : x1 = 2
  · have h := h.2.2.1 hc2
    refine lv_tableIn (tgt := 76) hx hb dX6_limitBy_9 (by rw [hc2] <;> decide) (by rw [hc2] <;> decide) (by rw [hc2] <;> rfl) (by decide) ?_
    refine lv_iload hx hb dX6_limitBy_76 (lv_at hl 0 rfl) ?_
    refine lv_iload_n hx hb dX6_limitBy_78 rfl (lv_at hl 3 rfl) ?_
    refine lv_iadd hx hb dX6_limitBy_79 ?_
    exact zr_I hx hb hr hlocks hP hS h dX6_limitBy_80
  have h := h.2.2.2 hc0 hc1 hc2
  refine lv_tableOut (tgt := 81) hx hb dX6_limitBy_9 (tsw3 hc0 hc1 hc2) (by decide) ?_
  refine lv_aload_n hx hb dX6_limitBy_81 rfl (lv_at hl 1 rfl) ?_
  refine lv_iload_n hx hb dX6_limitBy_82 rfl (lv_at hl 4 rfl) ?_
  refine zc_VI (As := [.int x3]) (rest := []) ⟨hx, hb, hml, hown, hts⟩ (cwV 1 hts gX6_limitBy_X6_aboveBy rfl rfl rfl hd_X6_aboveBy ⟨Nat.le_of_ble_eq_true rfl, Nat.le_of_ble_eq_true rfl⟩) (mt_X6_aboveBy l hZ σ _ x3 _ h) (rc_6 hZ hE hP kd100) hE hP hS rfl hl.1 rfl (Nat.le_of_ble_eq_true rfl) dX6_limitBy_83 ⟨Nat.zero_le _, Nat.zero_le _⟩ (fun r83 σ83 H locs h hP hS => ?_)
  refine lv_aload_n hx hb dX6_limitBy_86 rfl (lv_at hl 1 rfl) ?_
  refine lv_iload_n hx hb dX6_limitBy_87 rfl (lv_at hl 4 rfl) ?_
  refine zc_VI (As := [.int x3]) (rest := [.int r83]) ⟨hx, hb, hml, hown, hts⟩ (cwV 1 hts gX6_limitBy_X6_belowBy rfl rfl rfl hd_X6_belowBy ⟨Nat.le_of_ble_eq_true rfl, Nat.le_of_ble_eq_true rfl⟩) (mt_X6_belowBy l hZ σ83 _ x3 _ h) (rc_6 hZ hE hP kd100) hE hP hS rfl hl.1 rfl (Nat.le_of_ble_eq_true rfl) dX6_limitBy_88 ⟨Nat.zero_le _, Nat.zero_le _⟩ (fun r88 σ88 H locs h hP hS => ?_)
  refine zc_SI (As := [.int r83, .int r88]) (rest := []) ⟨hx, hb, hml, hown, hts⟩ (va_cwS 2 hts gX6_limitBy_X6_up rfl rfl rfl hd_X6_up ⟨Nat.le_of_ble_eq_true rfl, Nat.le_of_ble_eq_true rfl⟩) (mt_X6_up l hZ σ88 _ r83 r88 _ h) hE hP hS rfl hl.1 rfl (Nat.le_of_ble_eq_true rfl) dX6_limitBy_91 ⟨Nat.zero_le _, Nat.zero_le _⟩ (fun r91 σ91 H locs h hP hS => ?_)
  refine lv_iload_n hx hb dX6_limitBy_94 rfl (lv_at hl 3 rfl) ?_
  refine lv_aload_n hx hb dX6_limitBy_95 rfl (lv_at hl 1 rfl) ?_
  refine fg_6_15 hZ hx hb hts in6 hown hE hP kd100 lk169 dX6_limitBy_96 ?_
  refine lv_iconst (v := 1) hx hb dX6_limitBy_99 (by decide) ?_
  refine lv_iadd hx hb dX6_limitBy_100 ?_
  refine lv_imul hx hb dX6_limitBy_101 ?_
  refine lv_iadd hx hb dX6_limitBy_102 ?_
  exact zr_I hx hb hr hlocks hP hS h dX6_limitBy_103
theorem hd_X6_goes : yX6_goes.cls = RX6 ∧ yX6_goes.cls ≠ "java/lang/invoke/MethodHandle" ∧ yX6_goes.cls ≠ "java/lang/invoke/VarHandle" ∧ (parseMethodDescriptor yX6_goes.desc).map (fun d => d.parameters.length) = some 2 := by decide +kernel
set_option maxHeartbeats 4000000 in
set_option maxRecDepth 100000 in
theorem mt_X6_goes (l : Launch) {Z : ZW} (hZ : isM Z) (σ : SS) (sz : Nat) (x1 : Int32) (x2 : Int32) (K : SS → Prop) (h : wp_X6_goes σ x1 x2 K) : mtZ l yX6_goes wsX6_goes (rm9 4 96) Z [.ref (zq Z 100), .int x1, .int x2] σ sz (qcV Z K sz) := by
  refine Met.ofW (cc := cX6_goes) (maxL := 8) (ret := none) (by decide) rfl ?_
  intro p e s m args below meth c s₁ B hml hv
  obtain ⟨hargs, hsz, hP, hE1, hE2, hE3⟩ := hv
  subst hsz
  have hE : envZ Z s := ⟨hE1, hE2, hE3⟩
  have hx := B.exec
  have hb := B.bytes
  have hr := B.returns
  have hlocks := B.notSynchronized
  have hts := atoms_spec (ws := wsX6_goes) B.pre
  have hown : s.vm.findClass RX6 = some m.cls := findClass_of_methodNamed B.named
  have hS : SZ Z s s.heap [] := va_S.rf
  obtain ⟨ls, hef, hl⟩ := z_entry m hargs (n := 8) (Nat.le_of_ble_eq_true rfl)
  rw [hef]
  have hl : lv_has ls 8 [(0, .ref (zq Z 100)), (1, .int x1), (2, .int x2)] := hl
  have in6 : ∀ w ∈ u_ws RX6 TX6 28, w ∈ wsX6_goes := by decide +kernel
  have lk107 := hts (.fieldLink RX6 107 "BeatDoubtsModel" "newsMany" "I") (by decide +kernel)
  have lk13 := hts (.fieldLink RX6 13 "BeatDoubtsModel" "periodNow" "I") (by decide +kernel)
  have lk169 := hts (.fieldLink RX6 169 "BeatDoubtsModel" "mistakes" "I") (by decide +kernel)
  have lk172 := hts (.fieldLink RX6 172 "BeatDoubtsModel" "mistakenAll" "I") (by decide +kernel)
  have lk175 := hts (.fieldLink RX6 175 "BeatDoubtsModel" "mistakenMost" "I") (by decide +kernel)
  have lk178 := hts (.fieldLink RX6 178 "BeatDoubtsModel" "lag" "I") (by decide +kernel)
  have lk23 := hts (.fieldLink RX6 23 "BeatDoubtsModel" "newsBeats" "[I") (by decide +kernel)
  have lk26 := hts (.fieldLink RX6 26 "BeatDoubtsModel" "newsTimes" "[I") (by decide +kernel)
  have lk41 := hts (.fieldLink RX6 41 "BeatDoubtsModel" "begins" "[I") (by decide +kernel)
  have lk44 := hts (.fieldLink RX6 44 "BeatDoubtsModel" "isMistake" "[Z") (by decide +kernel)
  have B26 : ∀ (n : Nat) (σ : SS) (x1 : Int32) (x2 : Int32) (x3 : Int32) (H : Heap) (locs : List Loc) (ls : Array Slot), fx4 (lb_X6_goes_26 K) n σ x1 x2 x3 → PZ Z σ H → SZ Z s H locs → lv_has ls 8 [(0, .ref (zq Z 100)), (1, .int x1), (2, .int x2), (3, .int x3)] → W p l e (headSpec wsX6_goes (rm9 4 96)).room s m args below meth c H locs 0 0 (MQ below (qcV Z K s.heap.size) args s 0 0 (aZ Z s.heap.size)) (F0 m 26 ls []) := by
    intro n26
    induction n26 with
    | zero => intro σ x1 x2 x3 H locs ls h; exact h.elim
    | succ n26 ih26 =>
      have B166 : ∀ (σ : SS) (x1 : Int32) (x2 : Int32) (x3 : Int32) (x5 : Int32) (k0 : Int32) (H : Heap) (locs : List Loc) (ls : Array Slot), bl_X6_goes_166 K (fx4 (lb_X6_goes_26 K) n26) σ x1 x2 x3 x5 k0 → PZ Z σ H → SZ Z s H locs → lv_has ls 8 [(0, .ref (zq Z 100)), (1, .int x1), (2, .int x2), (3, .int x3), (5, .int x5)] → W p l e (headSpec wsX6_goes (rm9 4 96)).room s m args below meth c H locs 0 0 (MQ below (qcV Z K s.heap.size) args s 0 0 (aZ Z s.heap.size)) (F0 m 166 ls [.int k0, .ref (zq Z 100)]) := by
        intro σ x1 x2 x3 x5 k0 H locs ls h hP hS hl
        unfold bl_X6_goes_166 at h
        refine fp_6_18 hZ hx hb hts in6 hown hE hP hS kd100 lk178 dX6_goes_166 (fun H locs hP hS => ?_)
        refine lv_aload_n hx hb dX6_goes_169 rfl (lv_at hl 0 rfl) ?_
        refine fg_6_14 hZ hx hb hts in6 hown hE hP kd100 lk44 dX6_goes_170 ?_
        refine lv_iload_n hx hb dX6_goes_173 rfl (lv_at hl 3 rfl) ?_
        obtain ⟨hin, h⟩ := h
        refine al_23 hZ hx hb hE hP kr_6_14 hin dX6_goes_174 ?_
        refine lv_if_eq (tgt := 234) hx hb dX6_goes_175 (by decide) (fun hc => ?_) (fun hc => ?_)
        · have h := h.1 hc
          refine lv_iinc (v := (x3 + 1)) (lv' := [(3, .int (x3 + 1)), (0, .ref (zq Z 100)), (1, .int x1), (2, .int x2), (5, .int x5)]) hx hb dX6_goes_234 hl (k := 3) rfl rfl (by decide) rfl (fun ls hl => ?_)
          refine lv_goto (tgt := 26) hx hb dX6_goes_237 (by decide) ?_
          exact ih26 (sI σ 100 18 k0) x1 x2 (x3 + 1) _ _ _ h hP hS (lv_sub hl [1, 2, 3, 0] rfl)
        · have h := h.2 hc
          refine lv_aload_n hx hb dX6_goes_178 rfl (lv_at hl 0 rfl) ?_
          refine fg_6_6 hZ hx hb hts in6 hown hE hP kd100 lk26 dX6_goes_179 ?_
          refine lv_iload_n hx hb dX6_goes_182 rfl (lv_at hl 3 rfl) ?_
          refine lv_iconst (v := 1) hx hb dX6_goes_183 (by decide) ?_
          refine lv_iadd hx hb dX6_goes_184 ?_
          obtain ⟨hin, h⟩ := h
          refine al_20 hZ hx hb hE hP kr_6_6 hin dX6_goes_185 ?_
          refine lv_iload hx hb dX6_goes_186 (lv_at hl 4 rfl) ?_
          refine lv_isub hx hb dX6_goes_188 ?_
          refine lv_istore (lv' := [(7, .int ((gA σ 103 (x3 + 1).toNatClampNeg) - x5)), (0, .ref (zq Z 100)), (1, .int x1), (2, .int x2), (3, .int x3), (5, .int x5)]) hx hb dX6_goes_189 hl (by decide) rfl (fun ls hl => ?_)
          refine lv_aload_n hx hb dX6_goes_191 rfl (lv_at hl 1 rfl) ?_
          refine lv_dup hx hb dX6_goes_192 rfl ?_
          refine fg_6_15 hZ hx hb hts in6 hown hE hP kd100 lk169 dX6_goes_193 ?_
          refine lv_iconst (v := 1) hx hb dX6_goes_196 (by decide) ?_
          refine lv_iadd hx hb dX6_goes_197 ?_
          refine fp_6_15 hZ hx hb hts in6 hown hE hP hS kd100 lk169 dX6_goes_198 (fun H locs hP hS => ?_)
          refine lv_aload_n hx hb dX6_goes_201 rfl (lv_at hl 1 rfl) ?_
          refine lv_dup hx hb dX6_goes_202 rfl ?_
          refine fg_6_16 hZ hx hb hts in6 hown hE hP kd100 lk172 dX6_goes_203 ?_
          refine lv_iload hx hb dX6_goes_206 (lv_at hl 0 rfl) ?_
          refine lv_iadd hx hb dX6_goes_208 ?_
          refine fp_6_16 hZ hx hb hts in6 hown hE hP hS kd100 lk172 dX6_goes_209 (fun H locs hP hS => ?_)
          refine lv_aload_n hx hb dX6_goes_212 rfl (lv_at hl 1 rfl) ?_
          refine lv_iload hx hb dX6_goes_213 (lv_at hl 0 rfl) ?_
          refine lv_aload_n hx hb dX6_goes_215 rfl (lv_at hl 1 rfl) ?_
          refine fg_6_17 hZ hx hb hts in6 hown hE hP kd100 lk175 dX6_goes_216 ?_
          refine lv_icmp_le (tgt := 227) hx hb dX6_goes_219 (by decide) (fun hc => ?_) (fun hc => ?_)
          · have h := h.1 hc
            refine lv_aload_n hx hb dX6_goes_227 rfl (lv_at hl 1 rfl) ?_
            refine fg_6_17 hZ hx hb hts in6 hown hE hP kd100 lk175 dX6_goes_228 ?_
            refine fp_6_17 hZ hx hb hts in6 hown hE hP hS kd100 lk175 dX6_goes_231 (fun H locs hP hS => ?_)
            refine lv_iinc (v := (x3 + 1)) (lv' := [(3, .int (x3 + 1)), (7, .int ((gA σ 103 (x3 + 1).toNatClampNeg) - x5)), (0, .ref (zq Z 100)), (1, .int x1), (2, .int x2), (5, .int x5)]) hx hb dX6_goes_234 hl (k := 4) rfl rfl (by decide) rfl (fun ls hl => ?_)
            refine lv_goto (tgt := 26) hx hb dX6_goes_237 (by decide) ?_
            exact ih26 (sI (sI (sI (sI σ 100 18 k0) 100 15 ((gI (sI σ 100 18 k0) 100 15) + 1)) 100 16 ((gI (sI (sI σ 100 18 k0) 100 15 ((gI (sI σ 100 18 k0) 100 15) + 1)) 100 16) + ((gA σ 103 (x3 + 1).toNatClampNeg) - x5))) 100 17 (gI (sI (sI (sI σ 100 18 k0) 100 15 ((gI (sI σ 100 18 k0) 100 15) + 1)) 100 16 ((gI (sI (sI σ 100 18 k0) 100 15 ((gI (sI σ 100 18 k0) 100 15) + 1)) 100 16) + ((gA σ 103 (x3 + 1).toNatClampNeg) - x5))) 100 17)) x1 x2 (x3 + 1) _ _ _ h hP hS (lv_sub hl [2, 3, 4, 0] rfl)
          · have h := h.2 hc
            refine lv_iload hx hb dX6_goes_222 (lv_at hl 0 rfl) ?_
            refine lv_goto (tgt := 231) hx hb dX6_goes_224 (by decide) ?_
            refine fp_6_17 hZ hx hb hts in6 hown hE hP hS kd100 lk175 dX6_goes_231 (fun H locs hP hS => ?_)
            refine lv_iinc (v := (x3 + 1)) (lv' := [(3, .int (x3 + 1)), (7, .int ((gA σ 103 (x3 + 1).toNatClampNeg) - x5)), (0, .ref (zq Z 100)), (1, .int x1), (2, .int x2), (5, .int x5)]) hx hb dX6_goes_234 hl (k := 4) rfl rfl (by decide) rfl (fun ls hl => ?_)
            refine lv_goto (tgt := 26) hx hb dX6_goes_237 (by decide) ?_
            exact ih26 (sI (sI (sI (sI σ 100 18 k0) 100 15 ((gI (sI σ 100 18 k0) 100 15) + 1)) 100 16 ((gI (sI (sI σ 100 18 k0) 100 15 ((gI (sI σ 100 18 k0) 100 15) + 1)) 100 16) + ((gA σ 103 (x3 + 1).toNatClampNeg) - x5))) 100 17 ((gA σ 103 (x3 + 1).toNatClampNeg) - x5)) x1 x2 (x3 + 1) _ _ _ h hP hS (lv_sub hl [2, 3, 4, 0] rfl)
      have B124 : ∀ (σ : SS) (x1 : Int32) (x2 : Int32) (x3 : Int32) (x5 : Int32) (k0 : Int32) (k1 : Int32) (H : Heap) (locs : List Loc) (ls : Array Slot), bl_X6_goes_124 K (fx4 (lb_X6_goes_26 K) n26) σ x1 x2 x3 x5 k0 k1 → PZ Z σ H → SZ Z s H locs → lv_has ls 8 [(0, .ref (zq Z 100)), (1, .int x1), (2, .int x2), (3, .int x3), (5, .int x5)] → W p l e (headSpec wsX6_goes (rm9 4 96)).room s m args below meth c H locs 0 0 (MQ below (qcV Z K s.heap.size) args s 0 0 (aZ Z s.heap.size)) (F0 m 124 ls [.int k0, .int k1, .ref (zq Z 109)]) := by
        intro σ x1 x2 x3 x5 k0 k1 H locs ls h hP hS hl
        unfold bl_X6_goes_124 at h
        obtain ⟨hin, h⟩ := h
        refine as_23 hZ hx hb hE hP hS kr_6_14 hin dX6_goes_124 (fun H locs hP hS => ?_)
        refine lv_iload hx hb dX6_goes_125 (lv_at hl 4 rfl) ?_
        refine lv_aload_n hx hb dX6_goes_127 rfl (lv_at hl 0 rfl) ?_
        refine fg_6_2 hZ hx hb hts in6 hown hE hP kd100 lk13 dX6_goes_128 ?_
        refine lv_aload_n hx hb dX6_goes_131 rfl (lv_at hl 0 rfl) ?_
        refine fg_6_5 hZ hx hb hts in6 hown hE hP kd100 lk23 dX6_goes_132 ?_
        refine lv_iload_n hx hb dX6_goes_135 rfl (lv_at hl 3 rfl) ?_
        obtain ⟨hin, h⟩ := h
        refine al_20 hZ hx hb hE hP kr_6_5 hin dX6_goes_136 ?_
        refine lv_imul hx hb dX6_goes_137 ?_
        refine lv_isub hx hb dX6_goes_138 ?_
        refine lv_istore (lv' := [(6, .int (x5 - ((gI σ 100 2) * (gA (sA σ 109 k1.toNatClampNeg (vp_nar .boolean k0)) 102 x3.toNatClampNeg)))), (0, .ref (zq Z 100)), (1, .int x1), (2, .int x2), (3, .int x3), (5, .int x5)]) hx hb dX6_goes_139 hl (by decide) rfl (fun ls hl => ?_)
        refine lv_aload_n hx hb dX6_goes_141 rfl (lv_at hl 1 rfl) ?_
        refine lv_iload hx hb dX6_goes_142 (lv_at hl 5 rfl) ?_
        refine lv_iconst (v := (-1)) hx hb dX6_goes_144 (by decide) ?_
        refine lv_icmp_eq (tgt := 162) hx hb dX6_goes_145 (by decide) (fun hc => ?_) (fun hc => ?_)
        · have h := h.1 hc
          refine lv_aload_n hx hb dX6_goes_162 rfl (lv_at hl 1 rfl) ?_
          refine fg_6_18 hZ hx hb hts in6 hown hE hP kd100 lk178 dX6_goes_163 ?_
          exact B166 (sA σ 109 k1.toNatClampNeg (vp_nar .boolean k0)) x1 x2 x3 x5 (gI σ 100 18) _ _ _ h hP hS (lv_sub hl [1, 2, 3, 4, 5] rfl)
        · have h := h.2 hc
          refine lv_iload hx hb dX6_goes_148 (lv_at hl 0 rfl) ?_
          refine lv_aload_n hx hb dX6_goes_150 rfl (lv_at hl 1 rfl) ?_
          refine fg_6_18 hZ hx hb hts in6 hown hE hP kd100 lk178 dX6_goes_151 ?_
          refine lv_icmp_le (tgt := 162) hx hb dX6_goes_154 (by decide) (fun hc => ?_) (fun hc => ?_)
          · have h := h.1 hc
            refine lv_aload_n hx hb dX6_goes_162 rfl (lv_at hl 1 rfl) ?_
            refine fg_6_18 hZ hx hb hts in6 hown hE hP kd100 lk178 dX6_goes_163 ?_
            exact B166 (sA σ 109 k1.toNatClampNeg (vp_nar .boolean k0)) x1 x2 x3 x5 (gI σ 100 18) _ _ _ h hP hS (lv_sub hl [1, 2, 3, 4, 5] rfl)
          · have h := h.2 hc
            refine lv_iload hx hb dX6_goes_157 (lv_at hl 0 rfl) ?_
            refine lv_goto (tgt := 166) hx hb dX6_goes_159 (by decide) ?_
            exact B166 (sA σ 109 k1.toNatClampNeg (vp_nar .boolean k0)) x1 x2 x3 x5 (x5 - ((gI σ 100 2) * (gA (sA σ 109 k1.toNatClampNeg (vp_nar .boolean k0)) 102 x3.toNatClampNeg))) _ _ _ h hP hS (lv_sub hl [1, 2, 3, 4, 5] rfl)
      have B75 : ∀ (σ : SS) (x1 : Int32) (x2 : Int32) (x3 : Int32) (k0 : Int32) (H : Heap) (locs : List Loc) (ls : Array Slot), bl_X6_goes_75 K (fx4 (lb_X6_goes_26 K) n26) σ x1 x2 x3 k0 → PZ Z σ H → SZ Z s H locs → lv_has ls 8 [(0, .ref (zq Z 100)), (1, .int x1), (2, .int x2), (3, .int x3)] → W p l e (headSpec wsX6_goes (rm9 4 96)).room s m args below meth c H locs 0 0 (MQ below (qcV Z K s.heap.size) args s 0 0 (aZ Z s.heap.size)) (F0 m 75 ls [.int k0]) := by
        intro σ x1 x2 x3 k0 H locs ls h hP hS hl
        unfold bl_X6_goes_75 at h
        refine lv_istore (lv' := [(5, .int k0), (0, .ref (zq Z 100)), (1, .int x1), (2, .int x2), (3, .int x3)]) hx hb dX6_goes_75 hl (by decide) rfl (fun ls hl => ?_)
        refine lv_aload_n hx hb dX6_goes_77 rfl (lv_at hl 1 rfl) ?_
        refine fg_6_13 hZ hx hb hts in6 hown hE hP kd100 lk41 dX6_goes_78 ?_
        refine lv_iload_n hx hb dX6_goes_81 rfl (lv_at hl 4 rfl) ?_
        refine lv_iload hx hb dX6_goes_82 (lv_at hl 0 rfl) ?_
        obtain ⟨hin, h⟩ := h
        refine as_20 hZ hx hb hE hP hS kr_6_13 hin dX6_goes_84 (fun H locs hP hS => ?_)
        refine lv_aload_n hx hb dX6_goes_85 rfl (lv_at hl 1 rfl) ?_
        refine fg_6_14 hZ hx hb hts in6 hown hE hP kd100 lk44 dX6_goes_86 ?_
        refine lv_iload_n hx hb dX6_goes_89 rfl (lv_at hl 4 rfl) ?_
        refine lv_iload hx hb dX6_goes_90 (lv_at hl 0 rfl) ?_
        refine lv_iconst (v := (-1)) hx hb dX6_goes_92 (by decide) ?_
        refine lv_icmp_eq (tgt := 123) hx hb dX6_goes_93 (by decide) (fun hc => ?_) (fun hc => ?_)
        · have h := h.1 hc
          refine lv_iconst (v := 0) hx hb dX6_goes_123 (by decide) ?_
          exact B124 (sA σ 108 x3.toNatClampNeg k0) x1 x2 x3 k0 0 x3 _ _ _ h hP hS (lv_sub hl [1, 2, 3, 4, 0] rfl)
        · have h := h.2 hc
          refine lv_iload_n hx hb dX6_goes_96 rfl (lv_at hl 4 rfl) ?_
          refine lv_iconst (v := 1) hx hb dX6_goes_97 (by decide) ?_
          refine lv_iadd hx hb dX6_goes_98 ?_
          refine lv_aload_n hx hb dX6_goes_99 rfl (lv_at hl 1 rfl) ?_
          refine fg_6_7 hZ hx hb hts in6 hown hE hP kd100 lk107 dX6_goes_100 ?_
          refine lv_icmp_ge (tgt := 123) hx hb dX6_goes_103 (by decide) (fun hc => ?_) (fun hc => ?_)
          · have h := h.1 hc
            refine lv_iconst (v := 0) hx hb dX6_goes_123 (by decide) ?_
            exact B124 (sA σ 108 x3.toNatClampNeg k0) x1 x2 x3 k0 0 x3 _ _ _ h hP hS (lv_sub hl [1, 2, 3, 4, 0] rfl)
          · have h := h.2 hc
            refine lv_aload_n hx hb dX6_goes_106 rfl (lv_at hl 1 rfl) ?_
            refine fg_6_6 hZ hx hb hts in6 hown hE hP kd100 lk26 dX6_goes_107 ?_
            refine lv_iload_n hx hb dX6_goes_110 rfl (lv_at hl 4 rfl) ?_
            refine lv_iconst (v := 1) hx hb dX6_goes_111 (by decide) ?_
            refine lv_iadd hx hb dX6_goes_112 ?_
            obtain ⟨hin, h⟩ := h
            refine al_20 hZ hx hb hE hP kr_6_6 hin dX6_goes_113 ?_
            refine lv_iload hx hb dX6_goes_114 (lv_at hl 0 rfl) ?_
            refine lv_icmp_le (tgt := 123) hx hb dX6_goes_116 (by decide) (fun hc => ?_) (fun hc => ?_)
            · have h := h.1 hc
              refine lv_iconst (v := 0) hx hb dX6_goes_123 (by decide) ?_
              exact B124 (sA σ 108 x3.toNatClampNeg k0) x1 x2 x3 k0 0 x3 _ _ _ h hP hS (lv_sub hl [1, 2, 3, 4, 0] rfl)
            · have h := h.2 hc
              refine lv_iconst (v := 1) hx hb dX6_goes_119 (by decide) ?_
              refine lv_goto (tgt := 124) hx hb dX6_goes_120 (by decide) ?_
              exact B124 (sA σ 108 x3.toNatClampNeg k0) x1 x2 x3 k0 1 x3 _ _ _ h hP hS (lv_sub hl [1, 2, 3, 4, 0] rfl)
      intro σ x1 x2 x3 H locs ls h hP hS hl
      have h : lb_X6_goes_26 K (fx4 (lb_X6_goes_26 K) n26) σ x1 x2 x3 := h
      unfold lb_X6_goes_26 at h
      refine lv_iload_n hx hb dX6_goes_26 rfl (lv_at hl 3 rfl) ?_
      refine lv_aload_n hx hb dX6_goes_27 rfl (lv_at hl 0 rfl) ?_
      refine fg_6_7 hZ hx hb hts in6 hown hE hP kd100 lk107 dX6_goes_28 ?_
      refine lv_icmp_ge (tgt := 240) hx hb dX6_goes_31 (by decide) (fun hc => ?_) (fun hc => ?_)
      · have h := h.1 hc
        exact zr_V hx hb hr hlocks hP hS h dX6_goes_240
      · have h := h.2 hc
        refine lv_aload_n hx hb dX6_goes_34 rfl (lv_at hl 0 rfl) ?_
        refine lv_iload_n hx hb dX6_goes_35 rfl (lv_at hl 1 rfl) ?_
        refine lv_iload_n hx hb dX6_goes_36 rfl (lv_at hl 2 rfl) ?_
        refine lv_iload_n hx hb dX6_goes_37 rfl (lv_at hl 3 rfl) ?_
        refine zc_VI (As := [.int x1, .int x2, .int x3]) (rest := []) ⟨hx, hb, hml, hown, hts⟩ (cwV 3 hts gX6_goes_X6_limitBy rfl rfl rfl hd_X6_limitBy ⟨Nat.le_of_ble_eq_true rfl, Nat.le_of_ble_eq_true rfl⟩) (mt_X6_limitBy l hZ σ _ x1 x2 x3 _ h) (rc_6 hZ hE hP kd100) hE hP hS rfl hl.1 rfl (Nat.le_of_ble_eq_true rfl) dX6_goes_38 ⟨Nat.zero_le _, Nat.zero_le _⟩ (fun r38 σ38 H locs h hP hS => ?_)
        refine lv_istore (lv' := [(4, .int r38), (0, .ref (zq Z 100)), (1, .int x1), (2, .int x2), (3, .int x3)]) hx hb dX6_goes_41 hl (by decide) rfl (fun ls hl => ?_)
        refine lv_iload hx hb dX6_goes_43 (lv_at hl 0 rfl) ?_
        refine lv_iconst (v := (-1)) hx hb dX6_goes_45 (by decide) ?_
        refine lv_icmp_ne (tgt := 53) hx hb dX6_goes_46 (by decide) (fun hc => ?_) (fun hc => ?_)
        · have h := h.1 hc
          refine lv_iload hx hb dX6_goes_53 (lv_at hl 0 rfl) ?_
          refine lv_aload_n hx hb dX6_goes_55 rfl (lv_at hl 1 rfl) ?_
          refine fg_6_6 hZ hx hb hts in6 hown hE hP kd100 lk26 dX6_goes_56 ?_
          refine lv_iload_n hx hb dX6_goes_59 rfl (lv_at hl 4 rfl) ?_
          obtain ⟨hin, h⟩ := h
          refine al_20 hZ hx hb hE hP kr_6_6 hin dX6_goes_60 ?_
          refine lv_icmp_le (tgt := 69) hx hb dX6_goes_61 (by decide) (fun hc => ?_) (fun hc => ?_)
          · have h := h.1 hc
            refine lv_aload_n hx hb dX6_goes_69 rfl (lv_at hl 1 rfl) ?_
            refine fg_6_6 hZ hx hb hts in6 hown hE hP kd100 lk26 dX6_goes_70 ?_
            refine lv_iload_n hx hb dX6_goes_73 rfl (lv_at hl 4 rfl) ?_
            obtain ⟨hin, h⟩ := h
            refine al_20 hZ hx hb hE hP kr_6_6 hin dX6_goes_74 ?_
            exact B75 σ38 x1 x2 x3 (gA σ38 103 x3.toNatClampNeg) _ _ _ h hP hS (lv_sub hl [1, 2, 3, 4] rfl)
          · have h := h.2 hc
            refine lv_iload hx hb dX6_goes_64 (lv_at hl 0 rfl) ?_
            refine lv_goto (tgt := 75) hx hb dX6_goes_66 (by decide) ?_
            exact B75 σ38 x1 x2 x3 r38 _ _ _ h hP hS (lv_sub hl [1, 2, 3, 4] rfl)
        · have h := h.2 hc
          refine lv_iconst (v := (-1)) hx hb dX6_goes_49 (by decide) ?_
          refine lv_goto (tgt := 75) hx hb dX6_goes_50 (by decide) ?_
          exact B75 σ38 x1 x2 x3 (-1) _ _ _ h hP hS (lv_sub hl [1, 2, 3, 4] rfl)
  unfold wp_X6_goes at h
  refine lv_aload_n hx hb dX6_goes_0 rfl (lv_at hl 0 rfl) ?_
  refine zc_VV (As := []) (rest := []) ⟨hx, hb, hml, hown, hts⟩ (cwV 0 hts gX6_goes_X6_findsNews rfl rfl rfl hd_X6_findsNews ⟨Nat.le_of_ble_eq_true rfl, Nat.le_of_ble_eq_true rfl⟩) (mt_X6_findsNews l hZ σ _  _ h) (rc_6 hZ hE hP kd100) hE hP hS rfl hl.1 rfl (Nat.le_of_ble_eq_true rfl) dX6_goes_1 ⟨Nat.zero_le _, Nat.zero_le _⟩ (fun σ1 H locs h hP hS => ?_)
  refine lv_aload_n hx hb dX6_goes_4 rfl (lv_at hl 0 rfl) ?_
  refine lv_iconst (v := 0) hx hb dX6_goes_5 (by decide) ?_
  refine fp_6_15 hZ hx hb hts in6 hown hE hP hS kd100 lk169 dX6_goes_6 (fun H locs hP hS => ?_)
  refine lv_aload_n hx hb dX6_goes_9 rfl (lv_at hl 0 rfl) ?_
  refine lv_iconst (v := 0) hx hb dX6_goes_10 (by decide) ?_
  refine fp_6_16 hZ hx hb hts in6 hown hE hP hS kd100 lk172 dX6_goes_11 (fun H locs hP hS => ?_)
  refine lv_aload_n hx hb dX6_goes_14 rfl (lv_at hl 0 rfl) ?_
  refine lv_iconst (v := 0) hx hb dX6_goes_15 (by decide) ?_
  refine fp_6_17 hZ hx hb hts in6 hown hE hP hS kd100 lk175 dX6_goes_16 (fun H locs hP hS => ?_)
  refine lv_aload_n hx hb dX6_goes_19 rfl (lv_at hl 0 rfl) ?_
  refine lv_iconst (v := (-1)) hx hb dX6_goes_20 (by decide) ?_
  refine fp_6_18 hZ hx hb hts in6 hown hE hP hS kd100 lk178 dX6_goes_21 (fun H locs hP hS => ?_)
  refine lv_iconst (v := 0) hx hb dX6_goes_24 (by decide) ?_
  refine lv_istore_n (lv' := [(3, .int 0), (0, .ref (zq Z 100)), (1, .int x1), (2, .int x2)]) hx hb dX6_goes_25 rfl hl (by decide) rfl (fun ls hl => ?_)
  obtain ⟨n, h⟩ := h
  exact B26 n (sI (sI (sI (sI σ1 100 15 0) 100 16 0) 100 17 0) 100 18 (-1)) x1 x2 0 _ _ _ h hP hS (lv_sub hl [1, 2, 3, 0] rfl)
