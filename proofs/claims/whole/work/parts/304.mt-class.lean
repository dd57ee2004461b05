theorem hd_X5_wish : yX5_wish.cls = RX5 ∧ yX5_wish.cls ≠ "java/lang/invoke/MethodHandle" ∧ yX5_wish.cls ≠ "java/lang/invoke/VarHandle" ∧ (parseMethodDescriptor yX5_wish.desc).map (fun d => d.parameters.length) = some 3 := by decide +kernel
set_option maxHeartbeats 4000000 in
set_option maxRecDepth 100000 in
theorem mt_X5_wish (l : Launch) {Z : ZW} (hZ : isC Z) (σ : SS) (sz : Nat) (x1 : Int32) (x2 : Int32) (x3 : Int32) (K : SS → Int32 → Prop) (h : wp_X5_wish σ x1 x2 x3 K) : mtZ l yX5_wish wsX5_wish (rm9 2 44) Z [.ref (zq Z 0), .int x1, .int x2, .int x3] σ sz (qcI Z K sz) := by
  refine Met.ofW (cc := cX5_wish) (maxL := 7) (ret := (some .int)) (by decide) rfl ?_
  intro p e s m args below meth c s₁ B hml hv
  obtain ⟨hargs, hsz, hP, hE1, hE2, hE3⟩ := hv
  subst hsz
  have hE : envZ Z s := ⟨hE1, hE2, hE3⟩
  have hx := B.exec
  have hb := B.bytes
  have hr := B.returns
  have hlocks := B.notSynchronized
  have hts := atoms_spec (ws := wsX5_wish) B.pre
  have hown : s.vm.findClass RX5 = some m.cls := findClass_of_methodNamed B.named
  have hS : SZ Z s s.heap [] := va_S.rf
  obtain ⟨ls, hef, hl⟩ := z_entry m hargs (n := 7) (Nat.le_of_ble_eq_true rfl)
  rw [hef]
  have hl : lv_has ls 7 [(0, .ref (zq Z 0)), (1, .int x1), (2, .int x2), (3, .int x3)] := hl
  have in4 : ∀ w ∈ u_ws RX4 TX4 5, w ∈ wsX5_wish := by decide +kernel
  have in5 : ∀ w ∈ u_ws RX5 TX5 15, w ∈ wsX5_wish := by decide +kernel
  have lk157 := hts (.fieldLink RX5 157 "BeatDoubts$Watcher" "notice" "I") (by decide +kernel)
  have lk160 := hts (.fieldLink RX5 160 "BeatDoubts$Watcher" "few" "I") (by decide +kernel)
  have lk25 := hts (.fieldLink RX5 25 "BeatDoubts" "watchers" "[LBeatDoubts$Watcher;") (by decide +kernel)
  have B51 : ∀ (σ : SS) (x1 : Int32) (x2 : Int32) (x3 : Int32) (H : Heap) (locs : List Loc) (ls : Array Slot), bl_X5_wish_51 K σ x1 x2 x3 → PZ Z σ H → SZ Z s H locs → lv_has ls 7 [(0, .ref (zq Z 0)), (1, .int x1), (2, .int x2), (3, .int x3)] → W p l e (headSpec wsX5_wish (rm9 2 44)).room s m args below meth c H locs 0 0 (MQ below (qcI Z K s.heap.size) args s 0 0 (aZ Z s.heap.size)) (F0 m 51 ls []) := by
    intro σ x1 x2 x3 H locs ls h hP hS hl
    unfold bl_X5_wish_51 at h
    refine lv_aload_n hx hb dX5_wish_51 rfl (lv_at hl 0 rfl) ?_
    refine zc_VV (As := []) (rest := []) ⟨hx, hb, hml, hown, hts⟩ (cwV 0 hts gX5_wish_X5_forgetWhatFollowed rfl rfl rfl hd_X5_forgetWhatFollowed ⟨Nat.le_of_ble_eq_true rfl, Nat.le_of_ble_eq_true rfl⟩) (mt_X5_forgetWhatFollowed l hZ σ _  _ h) (rc_5 hZ hE hP kd0) hE hP hS rfl hl.1 rfl (Nat.le_of_ble_eq_true rfl) dX5_wish_52 ⟨Nat.zero_le _, Nat.zero_le _⟩ (fun σ52 H locs h hP hS => ?_)
    refine lv_aload_n hx hb dX5_wish_55 rfl (lv_at hl 0 rfl) ?_
    refine fg_5_5 hZ hx hb hts in5 hown hE hP kd0 lk25 dX5_wish_56 ?_
    refine lv_iload_n hx hb dX5_wish_59 rfl (lv_at hl 1 rfl) ?_
    obtain ⟨hin60, h⟩ := h
    refine al_16 hZ hx hb hE hP kr_5_5 hin60 dX5_wish_60 ?_
    refine lv_astore (lv' := [(5, .ref (zq Z (26 + 6 * x1.toNatClampNeg))), (0, .ref (zq Z 0)), (1, .int x1), (2, .int x2), (3, .int x3)]) hx hb dX5_wish_61 hl (by decide) rfl (fun ls hl => ?_)
    refine lv_iload_n hx hb dX5_wish_63 rfl (lv_at hl 3 rfl) ?_
    refine lv_if_ne (tgt := 83) hx hb dX5_wish_64 (by decide) (fun hc => ?_) (fun hc => ?_)
    · have h := h.1 hc
      refine lv_aload hx hb dX5_wish_83 (lv_at hl 0 rfl) ?_
      refine fg_4_3 hZ hx hb hts in4 hown hE hP (kWi hin60) lk160 dX5_wish_85 ?_
      refine lv_istore (lv' := [(6, .int (gI σ52 (26 + 6 * x1.toNatClampNeg) 3)), (5, .ref (zq Z (26 + 6 * x1.toNatClampNeg))), (0, .ref (zq Z 0)), (1, .int x1), (2, .int x2), (3, .int x3)]) hx hb dX5_wish_88 hl (by decide) rfl (fun ls hl => ?_)
      refine lv_aload hx hb dX5_wish_90 (lv_at hl 1 rfl) ?_
      refine lv_iload_n hx hb dX5_wish_92 rfl (lv_at hl 5 rfl) ?_
      refine fp_4_3 hZ hx hb hts in4 hown hE hP hS (kWi hin60) lk160 dX5_wish_93 (fun H locs hP hS => ?_)
      refine lv_iload hx hb dX5_wish_96 (lv_at hl 0 rfl) ?_
      exact zr_I hx hb hr hlocks hP hS h dX5_wish_98
    · have h := h.2 hc
      refine lv_aload hx hb dX5_wish_67 (lv_at hl 0 rfl) ?_
      refine fg_4_2 hZ hx hb hts in4 hown hE hP (kWi hin60) lk157 dX5_wish_69 ?_
      refine lv_istore (lv' := [(6, .int (gI σ52 (26 + 6 * x1.toNatClampNeg) 2)), (5, .ref (zq Z (26 + 6 * x1.toNatClampNeg))), (0, .ref (zq Z 0)), (1, .int x1), (2, .int x2), (3, .int x3)]) hx hb dX5_wish_72 hl (by decide) rfl (fun ls hl => ?_)
      refine lv_aload hx hb dX5_wish_74 (lv_at hl 1 rfl) ?_
      refine lv_iload_n hx hb dX5_wish_76 rfl (lv_at hl 5 rfl) ?_
      refine fp_4_2 hZ hx hb hts in4 hown hE hP hS (kWi hin60) lk157 dX5_wish_77 (fun H locs hP hS => ?_)
      refine lv_goto (tgt := 96) hx hb dX5_wish_80 (by decide) ?_
      refine lv_iload hx hb dX5_wish_96 (lv_at hl 0 rfl) ?_
      exact zr_I hx hb hr hlocks hP hS h dX5_wish_98
  have B12 : ∀ (σ : SS) (x1 : Int32) (x2 : Int32) (x3 : Int32) (k0 : Int32) (H : Heap) (locs : List Loc) (ls : Array Slot), bl_X5_wish_12 K σ x1 x2 x3 k0 → PZ Z σ H → SZ Z s H locs → lv_has ls 7 [(0, .ref (zq Z 0)), (1, .int x1), (2, .int x2), (3, .int x3)] → W p l e (headSpec wsX5_wish (rm9 2 44)).room s m args below meth c H locs 0 0 (MQ below (qcI Z K s.heap.size) args s 0 0 (aZ Z s.heap.size)) (F0 m 12 ls [.int k0]) := by
    intro σ x1 x2 x3 k0 H locs ls h hP hS hl
    unfold bl_X5_wish_12 at h
    refine lv_istore (lv' := [(4, .int k0), (0, .ref (zq Z 0)), (1, .int x1), (2, .int x2), (3, .int x3)]) hx hb dX5_wish_12 hl (by decide) rfl (fun ls hl => ?_)
    refine lv_aload_n hx hb dX5_wish_14 rfl (lv_at hl 1 rfl) ?_
    refine lv_iload_n hx hb dX5_wish_15 rfl (lv_at hl 2 rfl) ?_
    refine zc_VI (As := [.int x1]) (rest := []) ⟨hx, hb, hml, hown, hts⟩ (cwV 1 hts gX5_wish_X5_isWatcher rfl rfl rfl hd_X5_isWatcher ⟨Nat.le_of_ble_eq_true rfl, Nat.le_of_ble_eq_true rfl⟩) (mt_X5_isWatcher l hZ σ _ x1 _ h) (rc_5 hZ hE hP kd0) hE hP hS rfl hl.1 rfl (Nat.le_of_ble_eq_true rfl) dX5_wish_16 ⟨Nat.zero_le _, Nat.zero_le _⟩ (fun r16 σ16 H locs h hP hS => ?_)
    refine lv_if_eq (tgt := 48) hx hb dX5_wish_19 (by decide) (fun hc => ?_) (fun hc => ?_)
    · have h := h.1 hc
      refine lv_bipush (v := (-2)) hx hb dX5_wish_48 (by decide) ?_
      exact zr_I hx hb hr hlocks hP hS h dX5_wish_50
    · have h := h.2 hc
      refine lv_iload_n hx hb dX5_wish_22 rfl (lv_at hl 3 rfl) ?_
      refine lv_i2l hx hb dX5_wish_23 rfl ?_
      refine lv_iconst (v := 0) hx hb dX5_wish_24 (by decide) ?_
      refine lv_iconst (v := 1) hx hb dX5_wish_25 (by decide) ?_
      refine zc_SI (As := [.long x2.toInt64, .int 0, .int 1]) (rest := []) ⟨hx, hb, hml, hown, hts⟩ (va_cwS 3 hts gX5_wish_X5_isWithin rfl rfl rfl hd_X5_isWithin ⟨Nat.le_of_ble_eq_true rfl, Nat.le_of_ble_eq_true rfl⟩) (mt_X5_isWithin l hZ σ16 _ x2.toInt64 0 1 _ h) hE hP hS rfl hl.1 rfl (Nat.le_of_ble_eq_true rfl) dX5_wish_26 ⟨Nat.zero_le _, Nat.zero_le _⟩ (fun r26 σ26 H locs h hP hS => ?_)
      refine lv_if_eq (tgt := 48) hx hb dX5_wish_29 (by decide) (fun hc => ?_) (fun hc => ?_)
      · have h := h.1 hc
        refine lv_bipush (v := (-2)) hx hb dX5_wish_48 (by decide) ?_
        exact zr_I hx hb hr hlocks hP hS h dX5_wish_50
      · have h := h.2 hc
        refine lv_iload_n hx hb dX5_wish_32 rfl (lv_at hl 4 rfl) ?_
        refine lv_i2l hx hb dX5_wish_33 rfl ?_
        refine lv_iconst (v := 0) hx hb dX5_wish_34 (by decide) ?_
        refine lv_iload hx hb dX5_wish_35 (lv_at hl 0 rfl) ?_
        refine zc_SI (As := [.long x3.toInt64, .int 0, .int k0]) (rest := []) ⟨hx, hb, hml, hown, hts⟩ (va_cwS 3 hts gX5_wish_X5_isWithin rfl rfl rfl hd_X5_isWithin ⟨Nat.le_of_ble_eq_true rfl, Nat.le_of_ble_eq_true rfl⟩) (mt_X5_isWithin l hZ σ26 _ x3.toInt64 0 k0 _ h) hE hP hS rfl hl.1 rfl (Nat.le_of_ble_eq_true rfl) dX5_wish_37 ⟨Nat.zero_le _, Nat.zero_le _⟩ (fun r37 σ37 H locs h hP hS => ?_)
        refine lv_if_ne (tgt := 51) hx hb dX5_wish_40 (by decide) (fun hc => ?_) (fun hc => ?_)
        · have h := h.1 hc
          exact B51 σ37 x1 x2 x3 _ _ _ h hP hS (lv_sub hl [1, 2, 3, 4] rfl)
        · have h := h.2 hc
          refine lv_iload_n hx hb dX5_wish_43 rfl (lv_at hl 4 rfl) ?_
          refine lv_iconst (v := (-1)) hx hb dX5_wish_44 (by decide) ?_
          refine lv_icmp_eq (tgt := 51) hx hb dX5_wish_45 (by decide) (fun hc => ?_) (fun hc => ?_)
          · have h := h.1 hc
            exact B51 σ37 x1 x2 x3 _ _ _ h hP hS (lv_sub hl [1, 2, 3, 4] rfl)
          · have h := h.2 hc
            refine lv_bipush (v := (-2)) hx hb dX5_wish_48 (by decide) ?_
            exact zr_I hx hb hr hlocks hP hS h dX5_wish_50
  unfold wp_X5_wish at h
  refine lv_iload_n hx hb dX5_wish_0 rfl (lv_at hl 2 rfl) ?_
  refine lv_if_ne (tgt := 10) hx hb dX5_wish_1 (by decide) (fun hc => ?_) (fun hc => ?_)
  · have h := h.1 hc
    refine lv_bipush (v := 40) hx hb dX5_wish_10 (by decide) ?_
    exact B12 σ x1 x2 x3 40 _ _ _ h hP hS (lv_sub hl [0, 1, 2, 3] rfl)
  · have h := h.2 hc
    refine lv_sipush (v := 500) hx hb dX5_wish_4 (by decide) ?_
    refine lv_goto (tgt := 12) hx hb dX5_wish_7 (by decide) ?_
    exact B12 σ x1 x2 x3 500 _ _ _ h hP hS (lv_sub hl [0, 1, 2, 3] rfl)
theorem hd_X5_info : yX5_info.cls = RX5 ∧ yX5_info.cls ≠ "java/lang/invoke/MethodHandle" ∧ yX5_info.cls ≠ "java/lang/invoke/VarHandle" ∧ (parseMethodDescriptor yX5_info.desc).map (fun d => d.parameters.length) = some 2 := by decide +kernel
set_option maxHeartbeats 4000000 in
set_option maxRecDepth 100000 in
theorem mt_X5_info (l : Launch) {Z : ZW} (hZ : isC Z) (σ : SS) (sz : Nat) (x1 : Int32) (x2 : Int32) (K : SS → Int32 → Prop) (h : wp_X5_info σ x1 x2 K) : mtZ l yX5_info wsX5_info (rm9 4 98) Z [.ref (zq Z 0), .int x1, .int x2] σ sz (qcI Z K sz) := by
  refine Met.ofW (cc := cX5_info) (maxL := 5) (ret := (some .int)) (by decide) rfl ?_
  intro p e s m args below meth c s₁ B hml hv
  obtain ⟨hargs, hsz, hP, hE1, hE2, hE3⟩ := hv
  subst hsz
  have hE : envZ Z s := ⟨hE1, hE2, hE3⟩
  have hx := B.exec
  have hb := B.bytes
  have hr := B.returns
  have hlocks := B.notSynchronized
  have hts := atoms_spec (ws := wsX5_info) B.pre
  have hown : s.vm.findClass RX5 = some m.cls := findClass_of_methodNamed B.named
  have hS : SZ Z s s.heap [] := va_S.rf
  obtain ⟨ls, hef, hl⟩ := z_entry m hargs (n := 5) (Nat.le_of_ble_eq_true rfl)
  rw [hef]
  have hl : lv_has ls 5 [(0, .ref (zq Z 0)), (1, .int x1), (2, .int x2)] := hl
  have in1 : ∀ w ∈ u_ws RX1 TX1 8, w ∈ wsX5_info := by decide +kernel
  have in4 : ∀ w ∈ u_ws RX4 TX4 5, w ∈ wsX5_info := by decide +kernel
  have in5 : ∀ w ∈ u_ws RX5 TX5 15, w ∈ wsX5_info := by decide +kernel
  have lk151 := hts (.fieldLink RX5 151 "BeatDoubts$Watcher" "sort" "I") (by decide +kernel)
  have lk154 := hts (.fieldLink RX5 154 "BeatDoubts$Watcher" "measure" "I") (by decide +kernel)
  have lk157 := hts (.fieldLink RX5 157 "BeatDoubts$Watcher" "notice" "I") (by decide +kernel)
  have lk160 := hts (.fieldLink RX5 160 "BeatDoubts$Watcher" "few" "I") (by decide +kernel)
  have lk163 := hts (.fieldLink RX5 163 "BeatDoubts$Watcher" "diary" "LBeatDoubts$Diary;") (by decide +kernel)
  have lk166 := hts (.fieldLink RX5 166 "BeatDoubts$Diary" "mistakeCount" "I") (by decide +kernel)
  have lk169 := hts (.fieldLink RX5 169 "BeatDoubts$Diary" "timeMistaken" "I") (by decide +kernel)
  have lk172 := hts (.fieldLink RX5 172 "BeatDoubts$Diary" "longestMistake" "I") (by decide +kernel)
  have lk175 := hts (.fieldLink RX5 175 "BeatDoubts$Diary" "lag" "I") (by decide +kernel)
  have lk182 := hts (.fieldLink RX5 182 "BeatDoubts$Diary" "doubtForGood" "I") (by decide +kernel)
  have lk25 := hts (.fieldLink RX5 25 "BeatDoubts" "watchers" "[LBeatDoubts$Watcher;") (by decide +kernel)
  unfold wp_X5_info at h
  refine lv_aload_n hx hb dX5_info_0 rfl (lv_at hl 0 rfl) ?_
  refine lv_iload_n hx hb dX5_info_1 rfl (lv_at hl 1 rfl) ?_
  refine zc_VI (As := [.int x1]) (rest := []) ⟨hx, hb, hml, hown, hts⟩ (cwV 1 hts gX5_info_X5_isWatcher rfl rfl rfl hd_X5_isWatcher ⟨Nat.le_of_ble_eq_true rfl, Nat.le_of_ble_eq_true rfl⟩) (mt_X5_isWatcher l hZ σ _ x1 _ h) (rc_5 hZ hE hP kd0) hE hP hS rfl hl.1 rfl (Nat.le_of_ble_eq_true rfl) dX5_info_2 ⟨Nat.zero_le _, Nat.zero_le _⟩ (fun r2 σ2 H locs h hP hS => ?_)
  refine lv_if_eq (tgt := 19) hx hb dX5_info_5 (by decide) (fun hc => ?_) (fun hc => ?_)
  · have h := h.1 hc
    refine lv_bipush (v := (-2)) hx hb dX5_info_19 (by decide) ?_
    exact zr_I hx hb hr hlocks hP hS h dX5_info_21
  · have h := h.2 hc
    refine lv_iload_n hx hb dX5_info_8 rfl (lv_at hl 2 rfl) ?_
    refine lv_i2l hx hb dX5_info_9 rfl ?_
    refine lv_iconst (v := 0) hx hb dX5_info_10 (by decide) ?_
    refine lv_bipush (v := 9) hx hb dX5_info_11 (by decide) ?_
    refine zc_SI (As := [.long x2.toInt64, .int 0, .int 9]) (rest := []) ⟨hx, hb, hml, hown, hts⟩ (va_cwS 3 hts gX5_info_X5_isWithin rfl rfl rfl hd_X5_isWithin ⟨Nat.le_of_ble_eq_true rfl, Nat.le_of_ble_eq_true rfl⟩) (mt_X5_isWithin l hZ σ2 _ x2.toInt64 0 9 _ h) hE hP hS rfl hl.1 rfl (Nat.le_of_ble_eq_true rfl) dX5_info_13 ⟨Nat.zero_le _, Nat.zero_le _⟩ (fun r13 σ13 H locs h hP hS => ?_)
    refine lv_if_ne (tgt := 22) hx hb dX5_info_16 (by decide) (fun hc => ?_) (fun hc => ?_)
    · have h := h.1 hc
      refine lv_aload_n hx hb dX5_info_22 rfl (lv_at hl 0 rfl) ?_
      refine zc_VV (As := []) (rest := []) ⟨hx, hb, hml, hown, hts⟩ (cwV 0 hts gX5_info_X5_followArrivals rfl rfl rfl hd_X5_followArrivals ⟨Nat.le_of_ble_eq_true rfl, Nat.le_of_ble_eq_true rfl⟩) (mt_X5_followArrivals l hZ σ13 _  _ h) (rc_5 hZ hE hP kd0) hE hP hS rfl hl.1 rfl (Nat.le_of_ble_eq_true rfl) dX5_info_23 ⟨Nat.zero_le _, Nat.zero_le _⟩ (fun σ23 H locs h hP hS => ?_)
      refine lv_aload_n hx hb dX5_info_26 rfl (lv_at hl 0 rfl) ?_
      refine fg_5_5 hZ hx hb hts in5 hown hE hP kd0 lk25 dX5_info_27 ?_
      refine lv_iload_n hx hb dX5_info_30 rfl (lv_at hl 1 rfl) ?_
      obtain ⟨hin31, h⟩ := h
      refine al_16 hZ hx hb hE hP kr_5_5 hin31 dX5_info_31 ?_
      refine lv_astore_n (lv' := [(3, .ref (zq Z (26 + 6 * x1.toNatClampNeg))), (0, .ref (zq Z 0)), (1, .int x1), (2, .int x2)]) hx hb dX5_info_32 rfl hl (by decide) rfl (fun ls hl => ?_)
      refine lv_aload_n hx hb dX5_info_33 rfl (lv_at hl 0 rfl) ?_
      refine fg_4_4 hZ hx hb hts in4 hown hE hP (kWi hin31) lk163 dX5_info_34 ?_
      refine lv_astore (lv' := [(4, .ref (zq Z ((26 + 6 * x1.toNatClampNeg) + 1))), (3, .ref (zq Z (26 + 6 * x1.toNatClampNeg))), (0, .ref (zq Z 0)), (1, .int x1), (2, .int x2)]) hx hb dX5_info_37 hl (by decide) rfl (fun ls hl => ?_)
      refine lv_iload_n hx hb dX5_info_39 rfl (lv_at hl 4 rfl) ?_
      by_cases hc0 : x2 = 0
      · have h := h.1 hc0
        refine lv_tableIn (tgt := 92) hx hb dX5_info_40 (by rw [hc0] <;> decide) (by rw [hc0] <;> decide) (by rw [hc0] <;> rfl) (by decide) ?_
        refine lv_aload_n hx hb dX5_info_92 rfl (lv_at hl 1 rfl) ?_
        refine fg_4_0 hZ hx hb hts in4 hown hE hP (kWi hin31) lk151 dX5_info_93 ?_
        exact zr_I hx hb hr hlocks hP hS h dX5_info_96
      by_cases hc1 : x2 = 1
      · have h := h.2.1 hc1
        refine lv_tableIn (tgt := 97) hx hb dX5_info_40 (by rw [hc1] <;> decide) (by rw [hc1] <;> decide) (by rw [hc1] <;> rfl) (by decide) ?_
        refine lv_aload_n hx hb dX5_info_97 rfl (lv_at hl 1 rfl) ?_
        refine fg_4_1 hZ hx hb hts in4 hown hE hP (kWi hin31) lk154 dX5_info_98 ?_
        exact zr_I hx hb hr hlocks hP hS h dX5_info_101
      by_cases hc2 : x2 = 2
      · have h := h.2.2.1 hc2
        refine lv_tableIn (tgt := 102) hx hb dX5_info_40 (by rw [hc2] <;> decide) (by rw [hc2] <;> decide) (by rw [hc2] <;> rfl) (by decide) ?_
        refine lv_aload_n hx hb dX5_info_102 rfl (lv_at hl 1 rfl) ?_
        refine fg_4_2 hZ hx hb hts in4 hown hE hP (kWi hin31) lk157 dX5_info_103 ?_
        exact zr_I hx hb hr hlocks hP hS h dX5_info_106
      by_cases hc3 : x2 = 3
      · have h := h.2.2.2.1 hc3
        refine lv_tableIn (tgt := 107) hx hb dX5_info_40 (by rw [hc3] <;> decide) (by rw [hc3] <;> decide) (by rw [hc3] <;> rfl) (by decide) ?_
        refine lv_aload_n hx hb dX5_info_107 rfl (lv_at hl 1 rfl) ?_
        refine fg_4_3 hZ hx hb hts in4 hown hE hP (kWi hin31) lk160 dX5_info_108 ?_
        exact zr_I hx hb hr hlocks hP hS h dX5_info_111
      by_cases hc4 : x2 = 4
      · have h := h.2.2.2.2.1 hc4
        refine lv_tableIn (tgt := 112) hx hb dX5_info_40 (by rw [hc4] <;> decide) (by rw [hc4] <;> decide) (by rw [hc4] <;> rfl) (by decide) ?_
        refine lv_aload hx hb dX5_info_112 (lv_at hl 0 rfl) ?_
        refine fg_1_3 hZ hx hb hts in1 hown hE hP (kr_4_4 (kWi hin31)) lk166 dX5_info_114 ?_
        exact zr_I hx hb hr hlocks hP hS h dX5_info_117
      by_cases hc5 : x2 = 5
      · have h := h.2.2.2.2.2.1 hc5
        refine lv_tableIn (tgt := 118) hx hb dX5_info_40 (by rw [hc5] <;> decide) (by rw [hc5] <;> decide) (by rw [hc5] <;> rfl) (by decide) ?_
        refine lv_aload hx hb dX5_info_118 (lv_at hl 0 rfl) ?_
        refine fg_1_4 hZ hx hb hts in1 hown hE hP (kr_4_4 (kWi hin31)) lk169 dX5_info_120 ?_
        exact zr_I hx hb hr hlocks hP hS h dX5_info_123
      by_cases hc6 : x2 = 6
      · have h := h.2.2.2.2.2.2.1 hc6
        refine lv_tableIn (tgt := 124) hx hb dX5_info_40 (by rw [hc6] <;> decide) (by rw [hc6] <;> decide) (by rw [hc6] <;> rfl) (by decide) ?_
        refine lv_aload hx hb dX5_info_124 (lv_at hl 0 rfl) ?_
        refine fg_1_5 hZ hx hb hts in1 hown hE hP (kr_4_4 (kWi hin31)) lk172 dX5_info_126 ?_
        exact zr_I hx hb hr hlocks hP hS h dX5_info_129
      by_cases hc7 : x2 = 7
      · have h := h.2.2.2.2.2.2.2.1 hc7
        refine lv_tableIn (tgt := 130) hx hb dX5_info_40 (by rw [hc7] <;> decide) (by rw [hc7] <;> decide) (by rw [hc7] <;> rfl) (by decide) ?_
        refine lv_aload hx hb dX5_info_130 (lv_at hl 0 rfl) ?_
        refine fg_1_6 hZ hx hb hts in1 hown hE hP (kr_4_4 (kWi hin31)) lk175 dX5_info_132 ?_
        exact zr_I hx hb hr hlocks hP hS h dX5_info_135
      by_cases hc8 : x2 = 8
      · have h := h.2.2.2.2.2.2.2.2.1 hc8
        refine lv_tableIn (tgt := 136) hx hb dX5_info_40 (by rw [hc8] <;> decide) (by rw [hc8] <;> decide) (by rw [hc8] <;> rfl) (by decide) ?_
        refine lv_aload_n hx hb dX5_info_136 rfl (lv_at hl 1 rfl) ?_
        refine lv_aload hx hb dX5_info_137 (lv_at hl 0 rfl) ?_
        refine zc_VI (As := [.ref (zq Z ((26 + 6 * x1.toNatClampNeg) + 1))]) (rest := []) ⟨hx, hb, hml, hown, hts⟩ (cwV 1 hts gX5_info_X4_keepsWishes rfl rfl rfl hd_X4_keepsWishes ⟨Nat.le_of_ble_eq_true rfl, Nat.le_of_ble_eq_true rfl⟩) (mt_X4_keepsWishes l hZ σ23 _ (kWi hin31) (kr_4_4 (kWi hin31)) _ h) (rc_4 hZ hE hP (kWi hin31)) hE hP hS rfl hl.1 rfl (Nat.le_of_ble_eq_true rfl) dX5_info_139 ⟨Nat.zero_le _, Nat.zero_le _⟩ (fun r139 σ139 H locs h hP hS => ?_)
        refine lv_if_eq (tgt := 149) hx hb dX5_info_142 (by decide) (fun hc => ?_) (fun hc => ?_)
        · have h := h.1 hc
          refine lv_iconst (v := 0) hx hb dX5_info_149 (by decide) ?_
          exact zr_I hx hb hr hlocks hP hS h dX5_info_150
        · have h := h.2 hc
          refine lv_iconst (v := 1) hx hb dX5_info_145 (by decide) ?_
          refine lv_goto (tgt := 150) hx hb dX5_info_146 (by decide) ?_
          exact zr_I hx hb hr hlocks hP hS h dX5_info_150
      have h := h.2.2.2.2.2.2.2.2.2 hc0 hc1 hc2 hc3 hc4 hc5 hc6 hc7 hc8
      refine lv_tableOut (tgt := 151) hx hb dX5_info_40 (tsw9 hc0 hc1 hc2 hc3 hc4 hc5 hc6 hc7 hc8) (by decide) ?_
      refine lv_aload hx hb dX5_info_151 (lv_at hl 0 rfl) ?_
      refine fg_1_7 hZ hx hb hts in1 hown hE hP (kr_4_4 (kWi hin31)) lk182 dX5_info_153 ?_
      exact zr_I hx hb hr hlocks hP hS h dX5_info_156
    · have h := h.2 hc
      refine lv_bipush (v := (-2)) hx hb dX5_info_19 (by decide) ?_
      exact zr_I hx hb hr hlocks hP hS h dX5_info_21
theorem hd_X5_ledger : yX5_ledger.cls = RX5 ∧ yX5_ledger.cls ≠ "java/lang/invoke/MethodHandle" ∧ yX5_ledger.cls ≠ "java/lang/invoke/VarHandle" ∧ (parseMethodDescriptor yX5_ledger.desc).map (fun d => d.parameters.length) = some 3 := by decide +kernel
set_option maxHeartbeats 4000000 in
set_option maxRecDepth 100000 in
theorem mt_X5_ledger (l : Launch) {Z : ZW} (hZ : isC Z) (σ : SS) (sz : Nat) (x1 : Int32) (x2 : Int32) (x3 : Int32) (K : SS → Int32 → Prop) (h : wp_X5_ledger σ x1 x2 x3 K) : mtZ l yX5_ledger wsX5_ledger (rm9 4 98) Z [.ref (zq Z 0), .int x1, .int x2, .int x3] σ sz (qcI Z K sz) := by
  refine Met.ofW (cc := cX5_ledger) (maxL := 6) (ret := (some .int)) (by decide) rfl ?_
  intro p e s m args below meth c s₁ B hml hv
  obtain ⟨hargs, hsz, hP, hE1, hE2, hE3⟩ := hv
  subst hsz
  have hE : envZ Z s := ⟨hE1, hE2, hE3⟩
  have hx := B.exec
  have hb := B.bytes
  have hr := B.returns
  have hlocks := B.notSynchronized
  have hts := atoms_spec (ws := wsX5_ledger) B.pre
  have hown : s.vm.findClass RX5 = some m.cls := findClass_of_methodNamed B.named
  have hS : SZ Z s s.heap [] := va_S.rf
  obtain ⟨ls, hef, hl⟩ := z_entry m hargs (n := 6) (Nat.le_of_ble_eq_true rfl)
  rw [hef]
  have hl : lv_has ls 6 [(0, .ref (zq Z 0)), (1, .int x1), (2, .int x2), (3, .int x3)] := hl
  have in0 : ∀ w ∈ u_ws RX0 TX0 10, w ∈ wsX5_ledger := by decide +kernel
  have in1 : ∀ w ∈ u_ws RX1 TX1 8, w ∈ wsX5_ledger := by decide +kernel
  have in4 : ∀ w ∈ u_ws RX4 TX4 5, w ∈ wsX5_ledger := by decide +kernel
  have in5 : ∀ w ∈ u_ws RX5 TX5 15, w ∈ wsX5_ledger := by decide +kernel
  have lk109 := hts (.fieldLink RX5 109 "BeatDoubts$Arrivals" "timeOfNews" "[I") (by decide +kernel)
  have lk163 := hts (.fieldLink RX5 163 "BeatDoubts$Watcher" "diary" "LBeatDoubts$Diary;") (by decide +kernel)
  have lk166 := hts (.fieldLink RX5 166 "BeatDoubts$Diary" "mistakeCount" "I") (by decide +kernel)
  have lk185 := hts (.fieldLink RX5 185 "BeatDoubts$Diary" "newsOfMistake" "[I") (by decide +kernel)
  have lk188 := hts (.fieldLink RX5 188 "BeatDoubts$Diary" "beginBy" "[I") (by decide +kernel)
  have lk25 := hts (.fieldLink RX5 25 "BeatDoubts" "watchers" "[LBeatDoubts$Watcher;") (by decide +kernel)
  have lk40 := hts (.fieldLink RX5 40 "BeatDoubts" "arrivals" "LBeatDoubts$Arrivals;") (by decide +kernel)
  unfold wp_X5_ledger at h
  refine lv_aload_n hx hb dX5_ledger_0 rfl (lv_at hl 0 rfl) ?_
  refine lv_iload_n hx hb dX5_ledger_1 rfl (lv_at hl 1 rfl) ?_
  refine zc_VI (As := [.int x1]) (rest := []) ⟨hx, hb, hml, hown, hts⟩ (cwV 1 hts gX5_ledger_X5_isWatcher rfl rfl rfl hd_X5_isWatcher ⟨Nat.le_of_ble_eq_true rfl, Nat.le_of_ble_eq_true rfl⟩) (mt_X5_isWatcher l hZ σ _ x1 _ h) (rc_5 hZ hE hP kd0) hE hP hS rfl hl.1 rfl (Nat.le_of_ble_eq_true rfl) dX5_ledger_2 ⟨Nat.zero_le _, Nat.zero_le _⟩ (fun r2 σ2 H locs h hP hS => ?_)
  refine lv_if_eq (tgt := 18) hx hb dX5_ledger_5 (by decide) (fun hc => ?_) (fun hc => ?_)
  · have h := h.1 hc
    refine lv_bipush (v := (-2)) hx hb dX5_ledger_18 (by decide) ?_
    exact zr_I hx hb hr hlocks hP hS h dX5_ledger_20
  · have h := h.2 hc
    refine lv_iload_n hx hb dX5_ledger_8 rfl (lv_at hl 3 rfl) ?_
    refine lv_i2l hx hb dX5_ledger_9 rfl ?_
    refine lv_iconst (v := 0) hx hb dX5_ledger_10 (by decide) ?_
    refine lv_iconst (v := 2) hx hb dX5_ledger_11 (by decide) ?_
    refine zc_SI (As := [.long x3.toInt64, .int 0, .int 2]) (rest := []) ⟨hx, hb, hml, hown, hts⟩ (va_cwS 3 hts gX5_ledger_X5_isWithin rfl rfl rfl hd_X5_isWithin ⟨Nat.le_of_ble_eq_true rfl, Nat.le_of_ble_eq_true rfl⟩) (mt_X5_isWithin l hZ σ2 _ x3.toInt64 0 2 _ h) hE hP hS rfl hl.1 rfl (Nat.le_of_ble_eq_true rfl) dX5_ledger_12 ⟨Nat.zero_le _, Nat.zero_le _⟩ (fun r12 σ12 H locs h hP hS => ?_)
    refine lv_if_ne (tgt := 21) hx hb dX5_ledger_15 (by decide) (fun hc => ?_) (fun hc => ?_)
    · have h := h.1 hc
      refine lv_aload_n hx hb dX5_ledger_21 rfl (lv_at hl 0 rfl) ?_
      refine zc_VV (As := []) (rest := []) ⟨hx, hb, hml, hown, hts⟩ (cwV 0 hts gX5_ledger_X5_followArrivals rfl rfl rfl hd_X5_followArrivals ⟨Nat.le_of_ble_eq_true rfl, Nat.le_of_ble_eq_true rfl⟩) (mt_X5_followArrivals l hZ σ12 _  _ h) (rc_5 hZ hE hP kd0) hE hP hS rfl hl.1 rfl (Nat.le_of_ble_eq_true rfl) dX5_ledger_22 ⟨Nat.zero_le _, Nat.zero_le _⟩ (fun σ22 H locs h hP hS => ?_)
      refine lv_aload_n hx hb dX5_ledger_25 rfl (lv_at hl 0 rfl) ?_
      refine fg_5_5 hZ hx hb hts in5 hown hE hP kd0 lk25 dX5_ledger_26 ?_
      refine lv_iload_n hx hb dX5_ledger_29 rfl (lv_at hl 1 rfl) ?_
      obtain ⟨hin30, h⟩ := h
      refine al_16 hZ hx hb hE hP kr_5_5 hin30 dX5_ledger_30 ?_
      refine fg_4_4 hZ hx hb hts in4 hown hE hP (kWi hin30) lk163 dX5_ledger_31 ?_
      refine lv_astore (lv' := [(4, .ref (zq Z ((26 + 6 * x1.toNatClampNeg) + 1))), (0, .ref (zq Z 0)), (1, .int x1), (2, .int x2), (3, .int x3)]) hx hb dX5_ledger_34 hl (by decide) rfl (fun ls hl => ?_)
      refine lv_iload_n hx hb dX5_ledger_36 rfl (lv_at hl 3 rfl) ?_
      refine lv_i2l hx hb dX5_ledger_37 rfl ?_
      refine lv_iconst (v := 0) hx hb dX5_ledger_38 (by decide) ?_
      refine lv_aload hx hb dX5_ledger_39 (lv_at hl 0 rfl) ?_
      refine fg_1_3 hZ hx hb hts in1 hown hE hP (kr_4_4 (kWi hin30)) lk166 dX5_ledger_41 ?_
      refine lv_iconst (v := 1) hx hb dX5_ledger_44 (by decide) ?_
      refine lv_isub hx hb dX5_ledger_45 ?_
      refine zc_SI (As := [.long x2.toInt64, .int 0, .int ((gI σ22 ((26 + 6 * x1.toNatClampNeg) + 1) 3) - 1)]) (rest := []) ⟨hx, hb, hml, hown, hts⟩ (va_cwS 3 hts gX5_ledger_X5_isWithin rfl rfl rfl hd_X5_isWithin ⟨Nat.le_of_ble_eq_true rfl, Nat.le_of_ble_eq_true rfl⟩) (mt_X5_isWithin l hZ σ22 _ x2.toInt64 0 ((gI σ22 ((26 + 6 * x1.toNatClampNeg) + 1) 3) - 1) _ h) hE hP hS rfl hl.1 rfl (Nat.le_of_ble_eq_true rfl) dX5_ledger_46 ⟨Nat.zero_le _, Nat.zero_le _⟩ (fun r46 σ46 H locs h hP hS => ?_)
      refine lv_if_ne (tgt := 55) hx hb dX5_ledger_49 (by decide) (fun hc => ?_) (fun hc => ?_)
      · have h := h.1 hc
        refine lv_aload hx hb dX5_ledger_55 (lv_at hl 0 rfl) ?_
        refine fg_1_1 hZ hx hb hts in1 hown hE hP (kr_4_4 (kWi hin30)) lk185 dX5_ledger_57 ?_
        refine lv_iload_n hx hb dX5_ledger_60 rfl (lv_at hl 3 rfl) ?_
        obtain ⟨hin, h⟩ := h
        refine al_10 hZ hx hb hE hP (kr_1_1 (kr_4_4 (kWi hin30))) hin dX5_ledger_61 ?_
        refine lv_istore (lv' := [(5, .int (gA σ46 (((26 + 6 * x1.toNatClampNeg) + 1) + 2) x2.toNatClampNeg)), (4, .ref (zq Z ((26 + 6 * x1.toNatClampNeg) + 1))), (0, .ref (zq Z 0)), (1, .int x1), (2, .int x2), (3, .int x3)]) hx hb dX5_ledger_62 hl (by decide) rfl (fun ls hl => ?_)
        refine lv_iload_n hx hb dX5_ledger_64 rfl (lv_at hl 5 rfl) ?_
        by_cases hc0 : x3 = 0
        · have h := h.1 hc0
          refine lv_lookup (tgt := 92) hx hb dX5_ledger_65 (by decide) (by rw [hc0] <;> rfl) (by decide) ?_
          refine lv_aload hx hb dX5_ledger_92 (lv_at hl 1 rfl) ?_
          refine fg_1_0 hZ hx hb hts in1 hown hE hP (kr_4_4 (kWi hin30)) lk188 dX5_ledger_94 ?_
          refine lv_iload hx hb dX5_ledger_97 (lv_at hl 0 rfl) ?_
          obtain ⟨hin, h⟩ := h
          refine al_10 hZ hx hb hE hP (kr_1_0 (kr_4_4 (kWi hin30))) hin dX5_ledger_99 ?_
          exact zr_I hx hb hr hlocks hP hS h dX5_ledger_100
        by_cases hc1 : x3 = 1
        · have h := h.2.1 hc1
          refine lv_lookup (tgt := 101) hx hb dX5_ledger_65 (by decide) (by rw [hc1] <;> rfl) (by decide) ?_
          refine lv_aload_n hx hb dX5_ledger_101 rfl (lv_at hl 2 rfl) ?_
          refine fg_5_9 hZ hx hb hts in5 hown hE hP kd0 lk40 dX5_ledger_102 ?_
          refine fg_0_3 hZ hx hb hts in0 hown hE hP kr_5_9 lk109 dX5_ledger_105 ?_
          refine lv_iload hx hb dX5_ledger_108 (lv_at hl 0 rfl) ?_
          refine lv_iconst (v := 1) hx hb dX5_ledger_110 (by decide) ?_
          refine lv_iadd hx hb dX5_ledger_111 ?_
          obtain ⟨hin, h⟩ := h
          refine al_10 hZ hx hb hE hP (kr_0_3 kr_5_9) hin dX5_ledger_112 ?_
          exact zr_I hx hb hr hlocks hP hS h dX5_ledger_113
        have h := h.2.2 hc0 hc1
        refine lv_lookup (tgt := 114) hx hb dX5_ledger_65 (by decide) (lsw_out2 hc0 hc1) (by decide) ?_
        refine lv_iload hx hb dX5_ledger_114 (lv_at hl 0 rfl) ?_
        exact zr_I hx hb hr hlocks hP hS h dX5_ledger_116
      · have h := h.2 hc
        refine lv_bipush (v := (-2)) hx hb dX5_ledger_52 (by decide) ?_
        exact zr_I hx hb hr hlocks hP hS h dX5_ledger_54
    · have h := h.2 hc
      refine lv_bipush (v := (-2)) hx hb dX5_ledger_18 (by decide) ?_
      exact zr_I hx hb hr hlocks hP hS h dX5_ledger_20
theorem hd_X5_limit : yX5_limit.cls = RX5 ∧ yX5_limit.cls ≠ "java/lang/invoke/MethodHandle" ∧ yX5_limit.cls ≠ "java/lang/invoke/VarHandle" ∧ (parseMethodDescriptor yX5_limit.desc).map (fun d => d.parameters.length) = some 2 := by decide +kernel
set_option maxHeartbeats 4000000 in
set_option maxRecDepth 100000 in
theorem mt_X5_limit (l : Launch) {Z : ZW} (hZ : isC Z) (σ : SS) (sz : Nat) (x1 : Int32) (x2 : Int32) (K : SS → Int32 → Prop) (h : wp_X5_limit σ x1 x2 K) : mtZ l yX5_limit wsX5_limit (rm9 4 98) Z [.ref (zq Z 0), .int x1, .int x2] σ sz (qcI Z K sz) := by
  refine Met.ofW (cc := cX5_limit) (maxL := 3) (ret := (some .int)) (by decide) rfl ?_
  intro p e s m args below meth c s₁ B hml hv
  obtain ⟨hargs, hsz, hP, hE1, hE2, hE3⟩ := hv
  subst hsz
  have hE : envZ Z s := ⟨hE1, hE2, hE3⟩
  have hx := B.exec
  have hb := B.bytes
  have hr := B.returns
  have hlocks := B.notSynchronized
  have hts := atoms_spec (ws := wsX5_limit) B.pre
  have hown : s.vm.findClass RX5 = some m.cls := findClass_of_methodNamed B.named
  have hS : SZ Z s s.heap [] := va_S.rf
  obtain ⟨ls, hef, hl⟩ := z_entry m hargs (n := 3) (Nat.le_of_ble_eq_true rfl)
  rw [hef]
  have hl : lv_has ls 3 [(0, .ref (zq Z 0)), (1, .int x1), (2, .int x2)] := hl
  have in0 : ∀ w ∈ u_ws RX0 TX0 10, w ∈ wsX5_limit := by decide +kernel
  have in1 : ∀ w ∈ u_ws RX1 TX1 8, w ∈ wsX5_limit := by decide +kernel
  have in4 : ∀ w ∈ u_ws RX4 TX4 5, w ∈ wsX5_limit := by decide +kernel
  have in5 : ∀ w ∈ u_ws RX5 TX5 15, w ∈ wsX5_limit := by decide +kernel
  have lk103 := hts (.fieldLink RX5 103 "BeatDoubts$Arrivals" "newsCount" "I") (by decide +kernel)
  have lk163 := hts (.fieldLink RX5 163 "BeatDoubts$Watcher" "diary" "LBeatDoubts$Diary;") (by decide +kernel)
  have lk188 := hts (.fieldLink RX5 188 "BeatDoubts$Diary" "beginBy" "[I") (by decide +kernel)
  have lk25 := hts (.fieldLink RX5 25 "BeatDoubts" "watchers" "[LBeatDoubts$Watcher;") (by decide +kernel)
  have lk40 := hts (.fieldLink RX5 40 "BeatDoubts" "arrivals" "LBeatDoubts$Arrivals;") (by decide +kernel)
  unfold wp_X5_limit at h
  refine lv_aload_n hx hb dX5_limit_0 rfl (lv_at hl 0 rfl) ?_
  refine zc_VV (As := []) (rest := []) ⟨hx, hb, hml, hown, hts⟩ (cwV 0 hts gX5_limit_X5_followArrivals rfl rfl rfl hd_X5_followArrivals ⟨Nat.le_of_ble_eq_true rfl, Nat.le_of_ble_eq_true rfl⟩) (mt_X5_followArrivals l hZ σ _  _ h) (rc_5 hZ hE hP kd0) hE hP hS rfl hl.1 rfl (Nat.le_of_ble_eq_true rfl) dX5_limit_1 ⟨Nat.zero_le _, Nat.zero_le _⟩ (fun σ1 H locs h hP hS => ?_)
  refine lv_aload_n hx hb dX5_limit_4 rfl (lv_at hl 0 rfl) ?_
  refine lv_iload_n hx hb dX5_limit_5 rfl (lv_at hl 1 rfl) ?_
  refine zc_VI (As := [.int x1]) (rest := []) ⟨hx, hb, hml, hown, hts⟩ (cwV 1 hts gX5_limit_X5_isWatcher rfl rfl rfl hd_X5_isWatcher ⟨Nat.le_of_ble_eq_true rfl, Nat.le_of_ble_eq_true rfl⟩) (mt_X5_isWatcher l hZ σ1 _ x1 _ h) (rc_5 hZ hE hP kd0) hE hP hS rfl hl.1 rfl (Nat.le_of_ble_eq_true rfl) dX5_limit_6 ⟨Nat.zero_le _, Nat.zero_le _⟩ (fun r6 σ6 H locs h hP hS => ?_)
  refine lv_if_eq (tgt := 30) hx hb dX5_limit_9 (by decide) (fun hc => ?_) (fun hc => ?_)
  · have h := h.1 hc
    refine lv_bipush (v := (-2)) hx hb dX5_limit_30 (by decide) ?_
    exact zr_I hx hb hr hlocks hP hS h dX5_limit_32
  · have h := h.2 hc
    refine lv_iload_n hx hb dX5_limit_12 rfl (lv_at hl 2 rfl) ?_
    refine lv_i2l hx hb dX5_limit_13 rfl ?_
    refine lv_iconst (v := 0) hx hb dX5_limit_14 (by decide) ?_
    refine lv_aload_n hx hb dX5_limit_15 rfl (lv_at hl 0 rfl) ?_
    refine fg_5_9 hZ hx hb hts in5 hown hE hP kd0 lk40 dX5_limit_16 ?_
    refine fg_0_7 hZ hx hb hts in0 hown hE hP kr_5_9 lk103 dX5_limit_19 ?_
    refine lv_iconst (v := 1) hx hb dX5_limit_22 (by decide) ?_
    refine lv_isub hx hb dX5_limit_23 ?_
    refine zc_SI (As := [.long x2.toInt64, .int 0, .int ((gI σ6 5 7) - 1)]) (rest := []) ⟨hx, hb, hml, hown, hts⟩ (va_cwS 3 hts gX5_limit_X5_isWithin rfl rfl rfl hd_X5_isWithin ⟨Nat.le_of_ble_eq_true rfl, Nat.le_of_ble_eq_true rfl⟩) (mt_X5_isWithin l hZ σ6 _ x2.toInt64 0 ((gI σ6 5 7) - 1) _ h) hE hP hS rfl hl.1 rfl (Nat.le_of_ble_eq_true rfl) dX5_limit_24 ⟨Nat.zero_le _, Nat.zero_le _⟩ (fun r24 σ24 H locs h hP hS => ?_)
    refine lv_if_ne (tgt := 33) hx hb dX5_limit_27 (by decide) (fun hc => ?_) (fun hc => ?_)
    · have h := h.1 hc
      refine lv_aload_n hx hb dX5_limit_33 rfl (lv_at hl 0 rfl) ?_
      refine fg_5_5 hZ hx hb hts in5 hown hE hP kd0 lk25 dX5_limit_34 ?_
      refine lv_iload_n hx hb dX5_limit_37 rfl (lv_at hl 1 rfl) ?_
      obtain ⟨hin38, h⟩ := h
      refine al_16 hZ hx hb hE hP kr_5_5 hin38 dX5_limit_38 ?_
      refine fg_4_4 hZ hx hb hts in4 hown hE hP (kWi hin38) lk163 dX5_limit_39 ?_
      refine fg_1_0 hZ hx hb hts in1 hown hE hP (kr_4_4 (kWi hin38)) lk188 dX5_limit_42 ?_
      refine lv_iload_n hx hb dX5_limit_45 rfl (lv_at hl 2 rfl) ?_
      obtain ⟨hin, h⟩ := h
      refine al_10 hZ hx hb hE hP (kr_1_0 (kr_4_4 (kWi hin38))) hin dX5_limit_46 ?_
      exact zr_I hx hb hr hlocks hP hS h dX5_limit_47
    · have h := h.2 hc
      refine lv_bipush (v := (-2)) hx hb dX5_limit_30 (by decide) ?_
      exact zr_I hx hb hr hlocks hP hS h dX5_limit_32
theorem hd_X5_doubts : yX5_doubts.cls = RX5 ∧ yX5_doubts.cls ≠ "java/lang/invoke/MethodHandle" ∧ yX5_doubts.cls ≠ "java/lang/invoke/VarHandle" ∧ (parseMethodDescriptor yX5_doubts.desc).map (fun d => d.parameters.length) = some 1 := by decide +kernel
set_option maxHeartbeats 4000000 in
set_option maxRecDepth 100000 in
theorem mt_X5_doubts (l : Launch) {Z : ZW} (hZ : isC Z) (σ : SS) (sz : Nat) (x1 : Int32) (K : SS → Int32 → Prop) (h : wp_X5_doubts σ x1 K) : mtZ l yX5_doubts wsX5_doubts (rm9 4 98) Z [.ref (zq Z 0), .int x1] σ sz (qcI Z K sz) := by
  refine Met.ofW (cc := cX5_doubts) (maxL := 6) (ret := (some .int)) (by decide) rfl ?_
  intro p e s m args below meth c s₁ B hml hv
  obtain ⟨hargs, hsz, hP, hE1, hE2, hE3⟩ := hv
  subst hsz
  have hE : envZ Z s := ⟨hE1, hE2, hE3⟩
  have hx := B.exec
  have hb := B.bytes
  have hr := B.returns
  have hlocks := B.notSynchronized
  have hts := atoms_spec (ws := wsX5_doubts) B.pre
  have hown : s.vm.findClass RX5 = some m.cls := findClass_of_methodNamed B.named
  have hS : SZ Z s s.heap [] := va_S.rf
  obtain ⟨ls, hef, hl⟩ := z_entry m hargs (n := 6) (Nat.le_of_ble_eq_true rfl)
  rw [hef]
  have hl : lv_has ls 6 [(0, .ref (zq Z 0)), (1, .int x1)] := hl
  have in1 : ∀ w ∈ u_ws RX1 TX1 8, w ∈ wsX5_doubts := by decide +kernel
  have in4 : ∀ w ∈ u_ws RX4 TX4 5, w ∈ wsX5_doubts := by decide +kernel
  have in5 : ∀ w ∈ u_ws RX5 TX5 15, w ∈ wsX5_doubts := by decide +kernel
  have lk140 := hts (.fieldLink RX5 140 "BeatDoubts" "watcherCount" "I") (by decide +kernel)
  have lk163 := hts (.fieldLink RX5 163 "BeatDoubts$Watcher" "diary" "LBeatDoubts$Diary;") (by decide +kernel)
  have lk188 := hts (.fieldLink RX5 188 "BeatDoubts$Diary" "beginBy" "[I") (by decide +kernel)
  have lk25 := hts (.fieldLink RX5 25 "BeatDoubts" "watchers" "[LBeatDoubts$Watcher;") (by decide +kernel)
  have lk40 := hts (.fieldLink RX5 40 "BeatDoubts" "arrivals" "LBeatDoubts$Arrivals;") (by decide +kernel)
  have B40 : ∀ (n : Nat) (σ : SS) (x1 : Int32) (x2 : Int32) (x3 : Int32) (x4 : Int32) (H : Heap) (locs : List Loc) (ls : Array Slot), fx5 (lb_X5_doubts_40 K) n σ x1 x2 x3 x4 → PZ Z σ H → SZ Z s H locs → lv_has ls 6 [(0, .ref (zq Z 0)), (1, .int x1), (2, .int x2), (3, .int x3), (4, .int x4)] → W p l e (headSpec wsX5_doubts (rm9 4 98)).room s m args below meth c H locs 0 0 (MQ below (qcI Z K s.heap.size) args s 0 0 (aZ Z s.heap.size)) (F0 m 40 ls []) := by
    intro n40
    induction n40 with
    | zero => intro σ x1 x2 x3 x4 H locs ls h; exact h.elim
    | succ n40 ih40 =>
      intro σ x1 x2 x3 x4 H locs ls h hP hS hl
      have h : lb_X5_doubts_40 K (fx5 (lb_X5_doubts_40 K) n40) σ x1 x2 x3 x4 := h
      unfold lb_X5_doubts_40 at h
      refine lv_iload hx hb dX5_doubts_40 (lv_at hl 4 rfl) ?_
      refine lv_aload_n hx hb dX5_doubts_42 rfl (lv_at hl 0 rfl) ?_
      refine fg_5_6 hZ hx hb hts in5 hown hE hP kd0 lk140 dX5_doubts_43 ?_
      refine lv_icmp_ge (tgt := 91) hx hb dX5_doubts_46 (by decide) (fun hc => ?_) (fun hc => ?_)
      · have h := h.1 hc
        refine lv_iload_n hx hb dX5_doubts_91 rfl (lv_at hl 3 rfl) ?_
        exact zr_I hx hb hr hlocks hP hS h dX5_doubts_92
      · have h := h.2 hc
        refine lv_aload_n hx hb dX5_doubts_49 rfl (lv_at hl 0 rfl) ?_
        refine fg_5_5 hZ hx hb hts in5 hown hE hP kd0 lk25 dX5_doubts_50 ?_
        refine lv_iload hx hb dX5_doubts_53 (lv_at hl 4 rfl) ?_
        obtain ⟨hin55, h⟩ := h
        refine al_16 hZ hx hb hE hP kr_5_5 hin55 dX5_doubts_55 ?_
        refine fg_4_4 hZ hx hb hts in4 hown hE hP (kWi hin55) lk163 dX5_doubts_56 ?_
        refine fg_1_0 hZ hx hb hts in1 hown hE hP (kr_4_4 (kWi hin55)) lk188 dX5_doubts_59 ?_
        refine lv_iload_n hx hb dX5_doubts_62 rfl (lv_at hl 2 rfl) ?_
        obtain ⟨hin, h⟩ := h
        refine al_10 hZ hx hb hE hP (kr_1_0 (kr_4_4 (kWi hin55))) hin dX5_doubts_63 ?_
        refine lv_istore (lv' := [(5, .int (gA σ (((26 + 6 * x4.toNatClampNeg) + 1) + 1) x2.toNatClampNeg)), (0, .ref (zq Z 0)), (1, .int x1), (2, .int x2), (3, .int x3), (4, .int x4)]) hx hb dX5_doubts_64 hl (by decide) rfl (fun ls hl => ?_)
        refine lv_iload hx hb dX5_doubts_66 (lv_at hl 0 rfl) ?_
        refine lv_iconst (v := (-1)) hx hb dX5_doubts_68 (by decide) ?_
        refine lv_icmp_eq (tgt := 85) hx hb dX5_doubts_69 (by decide) (fun hc => ?_) (fun hc => ?_)
        · have h := h.1 hc
          refine lv_iinc (v := (x4 + 1)) (lv' := [(4, .int (x4 + 1)), (5, .int (gA σ (((26 + 6 * x4.toNatClampNeg) + 1) + 1) x2.toNatClampNeg)), (0, .ref (zq Z 0)), (1, .int x1), (2, .int x2), (3, .int x3)]) hx hb dX5_doubts_85 hl (k := 5) rfl rfl (by decide) rfl (fun ls hl => ?_)
          refine lv_goto (tgt := 40) hx hb dX5_doubts_88 (by decide) ?_
          exact ih40 σ x1 x2 x3 (x4 + 1) _ _ _ h hP hS (lv_sub hl [2, 3, 4, 5, 0] rfl)
        · have h := h.2 hc
          refine lv_iload hx hb dX5_doubts_72 (lv_at hl 0 rfl) ?_
          refine lv_iload_n hx hb dX5_doubts_74 rfl (lv_at hl 2 rfl) ?_
          refine lv_icmp_gt (tgt := 85) hx hb dX5_doubts_75 (by decide) (fun hc => ?_) (fun hc => ?_)
          · have h := h.1 hc
            refine lv_iinc (v := (x4 + 1)) (lv' := [(4, .int (x4 + 1)), (5, .int (gA σ (((26 + 6 * x4.toNatClampNeg) + 1) + 1) x2.toNatClampNeg)), (0, .ref (zq Z 0)), (1, .int x1), (2, .int x2), (3, .int x3)]) hx hb dX5_doubts_85 hl (k := 5) rfl rfl (by decide) rfl (fun ls hl => ?_)
            refine lv_goto (tgt := 40) hx hb dX5_doubts_88 (by decide) ?_
            exact ih40 σ x1 x2 x3 (x4 + 1) _ _ _ h hP hS (lv_sub hl [2, 3, 4, 5, 0] rfl)
          · have h := h.2 hc
            refine lv_iload_n hx hb dX5_doubts_78 rfl (lv_at hl 4 rfl) ?_
            refine lv_iconst (v := 1) hx hb dX5_doubts_79 (by decide) ?_
            refine lv_iload hx hb dX5_doubts_80 (lv_at hl 5 rfl) ?_
            refine lv_ishl hx hb dX5_doubts_82 ?_
            refine lv_ior hx hb dX5_doubts_83 ?_
            refine lv_istore_n (lv' := [(3, .int (x3 ||| ((1 : Int32) <<< (x4 &&& 31)))), (5, .int (gA σ (((26 + 6 * x4.toNatClampNeg) + 1) + 1) x2.toNatClampNeg)), (0, .ref (zq Z 0)), (1, .int x1), (2, .int x2), (4, .int x4)]) hx hb dX5_doubts_84 rfl hl (by decide) rfl (fun ls hl => ?_)
            refine lv_iinc (v := (x4 + 1)) (lv' := [(4, .int (x4 + 1)), (3, .int (x3 ||| ((1 : Int32) <<< (x4 &&& 31)))), (5, .int (gA σ (((26 + 6 * x4.toNatClampNeg) + 1) + 1) x2.toNatClampNeg)), (0, .ref (zq Z 0)), (1, .int x1), (2, .int x2)]) hx hb dX5_doubts_85 hl (k := 5) rfl rfl (by decide) rfl (fun ls hl => ?_)
            refine lv_goto (tgt := 40) hx hb dX5_doubts_88 (by decide) ?_
            exact ih40 σ x1 x2 (x3 ||| ((1 : Int32) <<< (x4 &&& 31))) (x4 + 1) _ _ _ h hP hS (lv_sub hl [3, 4, 5, 1, 0] rfl)
  unfold wp_X5_doubts at h
  refine lv_iload_n hx hb dX5_doubts_0 rfl (lv_at hl 1 rfl) ?_
  refine lv_i2l hx hb dX5_doubts_1 rfl ?_
  refine lv_iconst (v := 0) hx hb dX5_doubts_2 (by decide) ?_
  refine lv_sipush (v := 6000) hx hb dX5_doubts_3 (by decide) ?_
  refine zc_SI (As := [.long x1.toInt64, .int 0, .int 6000]) (rest := []) ⟨hx, hb, hml, hown, hts⟩ (va_cwS 3 hts gX5_doubts_X5_isWithin rfl rfl rfl hd_X5_isWithin ⟨Nat.le_of_ble_eq_true rfl, Nat.le_of_ble_eq_true rfl⟩) (mt_X5_isWithin l hZ σ _ x1.toInt64 0 6000 _ h) hE hP hS rfl hl.1 rfl (Nat.le_of_ble_eq_true rfl) dX5_doubts_6 ⟨Nat.zero_le _, Nat.zero_le _⟩ (fun r6 σ6 H locs h hP hS => ?_)
  refine lv_if_ne (tgt := 15) hx hb dX5_doubts_9 (by decide) (fun hc => ?_) (fun hc => ?_)
  · have h := h.1 hc
    refine lv_aload_n hx hb dX5_doubts_15 rfl (lv_at hl 0 rfl) ?_
    refine zc_VV (As := []) (rest := []) ⟨hx, hb, hml, hown, hts⟩ (cwV 0 hts gX5_doubts_X5_followArrivals rfl rfl rfl hd_X5_followArrivals ⟨Nat.le_of_ble_eq_true rfl, Nat.le_of_ble_eq_true rfl⟩) (mt_X5_followArrivals l hZ σ6 _  _ h) (rc_5 hZ hE hP kd0) hE hP hS rfl hl.1 rfl (Nat.le_of_ble_eq_true rfl) dX5_doubts_16 ⟨Nat.zero_le _, Nat.zero_le _⟩ (fun σ16 H locs h hP hS => ?_)
    refine lv_aload_n hx hb dX5_doubts_19 rfl (lv_at hl 0 rfl) ?_
    refine fg_5_9 hZ hx hb hts in5 hown hE hP kd0 lk40 dX5_doubts_20 ?_
    refine lv_iload_n hx hb dX5_doubts_23 rfl (lv_at hl 1 rfl) ?_
    refine zc_VI (As := [.int x1]) (rest := []) ⟨hx, hb, hml, hown, hts⟩ (cwV 1 hts gX5_doubts_X0_latestAt rfl rfl rfl hd_X0_latestAt ⟨Nat.le_of_ble_eq_true rfl, Nat.le_of_ble_eq_true rfl⟩) (mt_X0_latestAt l hZ σ16 _ kr_5_9 x1 _ h) (rc_0 hZ hE hP kr_5_9) hE hP hS rfl hl.1 rfl (Nat.le_of_ble_eq_true rfl) dX5_doubts_24 ⟨Nat.zero_le _, Nat.zero_le _⟩ (fun r24 σ24 H locs h hP hS => ?_)
    refine lv_istore_n (lv' := [(2, .int r24), (0, .ref (zq Z 0)), (1, .int x1)]) hx hb dX5_doubts_27 rfl hl (by decide) rfl (fun ls hl => ?_)
    refine lv_iload_n hx hb dX5_doubts_28 rfl (lv_at hl 0 rfl) ?_
    refine lv_iconst (v := (-1)) hx hb dX5_doubts_29 (by decide) ?_
    refine lv_icmp_ne (tgt := 35) hx hb dX5_doubts_30 (by decide) (fun hc => ?_) (fun hc => ?_)
    · have h := h.1 hc
      refine lv_iconst (v := 0) hx hb dX5_doubts_35 (by decide) ?_
      refine lv_istore_n (lv' := [(3, .int 0), (2, .int r24), (0, .ref (zq Z 0)), (1, .int x1)]) hx hb dX5_doubts_36 rfl hl (by decide) rfl (fun ls hl => ?_)
      refine lv_iconst (v := 0) hx hb dX5_doubts_37 (by decide) ?_
      refine lv_istore (lv' := [(4, .int 0), (3, .int 0), (2, .int r24), (0, .ref (zq Z 0)), (1, .int x1)]) hx hb dX5_doubts_38 hl (by decide) rfl (fun ls hl => ?_)
      obtain ⟨n, h⟩ := h
      exact B40 n σ24 x1 r24 0 0 _ _ _ h hP hS (lv_sub hl [3, 4, 2, 1, 0] rfl)
    · have h := h.2 hc
      refine lv_iconst (v := 0) hx hb dX5_doubts_33 (by decide) ?_
      exact zr_I hx hb hr hlocks hP hS h dX5_doubts_34
  · have h := h.2 hc
    refine lv_bipush (v := (-2)) hx hb dX5_doubts_12 (by decide) ?_
    exact zr_I hx hb hr hlocks hP hS h dX5_doubts_14
theorem hd_X5_noticed : yX5_noticed.cls = RX5 ∧ yX5_noticed.cls ≠ "java/lang/invoke/MethodHandle" ∧ yX5_noticed.cls ≠ "java/lang/invoke/VarHandle" ∧ (parseMethodDescriptor yX5_noticed.desc).map (fun d => d.parameters.length) = some 1 := by decide +kernel
set_option maxHeartbeats 4000000 in
set_option maxRecDepth 100000 in
theorem mt_X5_noticed (l : Launch) {Z : ZW} (hZ : isC Z) (σ : SS) (sz : Nat) (x1 : Int32) (K : SS → Int32 → Prop) (h : wp_X5_noticed σ x1 K) : mtZ l yX5_noticed wsX5_noticed (rm9 4 98) Z [.ref (zq Z 0), .int x1] σ sz (qcI Z K sz) := by
  refine Met.ofW (cc := cX5_noticed) (maxL := 3) (ret := (some .int)) (by decide) rfl ?_
  intro p e s m args below meth c s₁ B hml hv
  obtain ⟨hargs, hsz, hP, hE1, hE2, hE3⟩ := hv
  subst hsz
  have hE : envZ Z s := ⟨hE1, hE2, hE3⟩
  have hx := B.exec
  have hb := B.bytes
  have hr := B.returns
  have hlocks := B.notSynchronized
  have hts := atoms_spec (ws := wsX5_noticed) B.pre
  have hown : s.vm.findClass RX5 = some m.cls := findClass_of_methodNamed B.named
  have hS : SZ Z s s.heap [] := va_S.rf
  obtain ⟨ls, hef, hl⟩ := z_entry m hargs (n := 3) (Nat.le_of_ble_eq_true rfl)
  rw [hef]
  have hl : lv_has ls 3 [(0, .ref (zq Z 0)), (1, .int x1)] := hl
  have in1 : ∀ w ∈ u_ws RX1 TX1 8, w ∈ wsX5_noticed := by decide +kernel
  have in4 : ∀ w ∈ u_ws RX4 TX4 5, w ∈ wsX5_noticed := by decide +kernel
  have in5 : ∀ w ∈ u_ws RX5 TX5 15, w ∈ wsX5_noticed := by decide +kernel
  have cdmax := hts (.code Lib.Math.max.name Lib.Math.max.code 2 (some .int)) (by decide +kernel)
  have inM := hts (.initialized "java/lang/Math") (by decide +kernel)
  have lk163 := hts (.fieldLink RX5 163 "BeatDoubts$Watcher" "diary" "LBeatDoubts$Diary;") (by decide +kernel)
  have lk182 := hts (.fieldLink RX5 182 "BeatDoubts$Diary" "doubtForGood" "I") (by decide +kernel)
  have lk191 := hts (.methodLink RX5 191 Lib.Math.max.name) (by decide +kernel)
  have lk20 := hts (.fieldLink RX5 20 "BeatDoubts" "silence" "I") (by decide +kernel)
  have lk25 := hts (.fieldLink RX5 25 "BeatDoubts" "watchers" "[LBeatDoubts$Watcher;") (by decide +kernel)
  have stmax := hts (.static Lib.Math.max.name) (by decide +kernel)
  unfold wp_X5_noticed at h
  refine lv_aload_n hx hb dX5_noticed_0 rfl (lv_at hl 0 rfl) ?_
  refine lv_iload_n hx hb dX5_noticed_1 rfl (lv_at hl 1 rfl) ?_
  refine zc_VI (As := [.int x1]) (rest := []) ⟨hx, hb, hml, hown, hts⟩ (cwV 1 hts gX5_noticed_X5_isWatcher rfl rfl rfl hd_X5_isWatcher ⟨Nat.le_of_ble_eq_true rfl, Nat.le_of_ble_eq_true rfl⟩) (mt_X5_isWatcher l hZ σ _ x1 _ h) (rc_5 hZ hE hP kd0) hE hP hS rfl hl.1 rfl (Nat.le_of_ble_eq_true rfl) dX5_noticed_2 ⟨Nat.zero_le _, Nat.zero_le _⟩ (fun r2 σ2 H locs h hP hS => ?_)
  refine lv_if_ne (tgt := 11) hx hb dX5_noticed_5 (by decide) (fun hc => ?_) (fun hc => ?_)
  · have h := h.1 hc
    refine lv_aload_n hx hb dX5_noticed_11 rfl (lv_at hl 0 rfl) ?_
    refine zc_VV (As := []) (rest := []) ⟨hx, hb, hml, hown, hts⟩ (cwV 0 hts gX5_noticed_X5_followArrivals rfl rfl rfl hd_X5_followArrivals ⟨Nat.le_of_ble_eq_true rfl, Nat.le_of_ble_eq_true rfl⟩) (mt_X5_followArrivals l hZ σ2 _  _ h) (rc_5 hZ hE hP kd0) hE hP hS rfl hl.1 rfl (Nat.le_of_ble_eq_true rfl) dX5_noticed_12 ⟨Nat.zero_le _, Nat.zero_le _⟩ (fun σ12 H locs h hP hS => ?_)
    refine lv_aload_n hx hb dX5_noticed_15 rfl (lv_at hl 0 rfl) ?_
    refine fg_5_5 hZ hx hb hts in5 hown hE hP kd0 lk25 dX5_noticed_16 ?_
    refine lv_iload_n hx hb dX5_noticed_19 rfl (lv_at hl 1 rfl) ?_
    obtain ⟨hin20, h⟩ := h
    refine al_16 hZ hx hb hE hP kr_5_5 hin20 dX5_noticed_20 ?_
    refine fg_4_4 hZ hx hb hts in4 hown hE hP (kWi hin20) lk163 dX5_noticed_21 ?_
    refine fg_1_7 hZ hx hb hts in1 hown hE hP (kr_4_4 (kWi hin20)) lk182 dX5_noticed_24 ?_
    refine lv_istore_n (lv' := [(2, .int (gI σ12 ((26 + 6 * x1.toNatClampNeg) + 1) 7)), (0, .ref (zq Z 0)), (1, .int x1)]) hx hb dX5_noticed_27 rfl hl (by decide) rfl (fun ls hl => ?_)
    refine lv_aload_n hx hb dX5_noticed_28 rfl (lv_at hl 1 rfl) ?_
    refine fg_5_4 hZ hx hb hts in5 hown hE hP kd0 lk20 dX5_noticed_29 ?_
    refine lv_iconst (v := (-1)) hx hb dX5_noticed_32 (by decide) ?_
    refine lv_icmp_eq (tgt := 41) hx hb dX5_noticed_33 (by decide) (fun hc => ?_) (fun hc => ?_)
    · have h := h.1 hc
      refine lv_iconst (v := (-1)) hx hb dX5_noticed_41 (by decide) ?_
      exact zr_I hx hb hr hlocks hP hS h dX5_noticed_42
    · have h := h.2 hc
      refine lv_iload_n hx hb dX5_noticed_36 rfl (lv_at hl 0 rfl) ?_
      refine lv_iconst (v := (-1)) hx hb dX5_noticed_37 (by decide) ?_
      refine lv_icmp_ne (tgt := 43) hx hb dX5_noticed_38 (by decide) (fun hc => ?_) (fun hc => ?_)
      · have h := h.1 hc
        refine lv_iload_n hx hb dX5_noticed_43 rfl (lv_at hl 0 rfl) ?_
        refine lv_aload_n hx hb dX5_noticed_44 rfl (lv_at hl 1 rfl) ?_
        refine fg_5_4 hZ hx hb hts in5 hown hE hP kd0 lk20 dX5_noticed_45 ?_
        refine lv_isub hx hb dX5_noticed_48 ?_
        refine lv_iconst (v := 0) hx hb dX5_noticed_49 (by decide) ?_
        refine va_mmax hx hb (hml.trans hl.1.symm) hown lk191 stmax inM cdmax (Nat.le_of_ble_eq_true rfl) (Nat.le_of_ble_eq_true rfl) (Nat.zero_le _) (Nat.zero_le _) dX5_noticed_50 ?_
        exact zr_I hx hb hr hlocks hP hS h dX5_noticed_53
      · have h := h.2 hc
        refine lv_iconst (v := (-1)) hx hb dX5_noticed_41 (by decide) ?_
        exact zr_I hx hb hr hlocks hP hS h dX5_noticed_42
  · have h := h.2 hc
    refine lv_bipush (v := (-2)) hx hb dX5_noticed_8 (by decide) ?_
    exact zr_I hx hb hr hlocks hP hS h dX5_noticed_10
theorem hd_X5_least : yX5_least.cls = RX5 ∧ yX5_least.cls ≠ "java/lang/invoke/MethodHandle" ∧ yX5_least.cls ≠ "java/lang/invoke/VarHandle" ∧ (parseMethodDescriptor yX5_least.desc).map (fun d => d.parameters.length) = some 2 := by decide +kernel
set_option maxHeartbeats 4000000 in
set_option maxRecDepth 100000 in
theorem mt_X5_least (l : Launch) {Z : ZW} (hZ : isC Z) (σ : SS) (sz : Nat) (x1 : Int32) (x2 : Int32) (K : SS → Int32 → Prop) (h : wp_X5_least σ x1 x2 K) : mtZ l yX5_least wsX5_least (rm9 4 98) Z [.ref (zq Z 0), .int x1, .int x2] σ sz (qcI Z K sz) := by
  refine Met.ofW (cc := cX5_least) (maxL := 4) (ret := (some .int)) (by decide) rfl ?_
  intro p e s m args below meth c s₁ B hml hv
  obtain ⟨hargs, hsz, hP, hE1, hE2, hE3⟩ := hv
  subst hsz
  have hE : envZ Z s := ⟨hE1, hE2, hE3⟩
  have hx := B.exec
  have hb := B.bytes
  have hr := B.returns
  have hlocks := B.notSynchronized
  have hts := atoms_spec (ws := wsX5_least) B.pre
  have hown : s.vm.findClass RX5 = some m.cls := findClass_of_methodNamed B.named
  have hS : SZ Z s s.heap [] := va_S.rf
  obtain ⟨ls, hef, hl⟩ := z_entry m hargs (n := 4) (Nat.le_of_ble_eq_true rfl)
  rw [hef]
  have hl : lv_has ls 4 [(0, .ref (zq Z 0)), (1, .int x1), (2, .int x2)] := hl
  have in1 : ∀ w ∈ u_ws RX1 TX1 8, w ∈ wsX5_least := by decide +kernel
  have in5 : ∀ w ∈ u_ws RX5 TX5 15, w ∈ wsX5_least := by decide +kernel
  have lk166 := hts (.fieldLink RX5 166 "BeatDoubts$Diary" "mistakeCount" "I") (by decide +kernel)
  have lk194 := hts (.fieldLink RX5 194 "BeatDoubts" "LEAST_MEASURES" "[I") (by decide +kernel)
  have lk197 := hts (.fieldLink RX5 197 "BeatDoubts" "GREATEST_MEASURES" "[I") (by decide +kernel)
  have lk40 := hts (.fieldLink RX5 40 "BeatDoubts" "arrivals" "LBeatDoubts$Arrivals;") (by decide +kernel)
  have lk53 := hts (.fieldLink RX5 53 "BeatDoubts" "triedDiary" "LBeatDoubts$Diary;") (by decide +kernel)
  have B34 : ∀ (n : Nat) (σ : SS) (x1 : Int32) (x2 : Int32) (x3 : Int32) (H : Heap) (locs : List Loc) (ls : Array Slot), fx4 (lb_X5_least_34 K) n σ x1 x2 x3 → PZ Z σ H → SZ Z s H locs → lv_has ls 4 [(0, .ref (zq Z 0)), (1, .int x1), (2, .int x2), (3, .int x3)] → W p l e (headSpec wsX5_least (rm9 4 98)).room s m args below meth c H locs 0 0 (MQ below (qcI Z K s.heap.size) args s 0 0 (aZ Z s.heap.size)) (F0 m 34 ls []) := by
    intro n34
    induction n34 with
    | zero => intro σ x1 x2 x3 H locs ls h; exact h.elim
    | succ n34 ih34 =>
      intro σ x1 x2 x3 H locs ls h hP hS hl
      have h : lb_X5_least_34 K (fx4 (lb_X5_least_34 K) n34) σ x1 x2 x3 := h
      unfold lb_X5_least_34 at h
      refine lv_iload_n hx hb dX5_least_34 rfl (lv_at hl 3 rfl) ?_
      refine gs_gm hx hb hown hE hS lk197 dX5_least_35 ?_
      refine lv_iload_n hx hb dX5_least_38 rfl (lv_at hl 1 rfl) ?_
      obtain ⟨hin, h⟩ := h
      refine gt_gm hx hb hE hS hin dX5_least_39 ?_
      refine lv_icmp_gt (tgt := 75) hx hb dX5_least_40 (by decide) (fun hc => ?_) (fun hc => ?_)
      · have h := h.1 hc
        refine lv_iconst (v := (-1)) hx hb dX5_least_75 (by decide) ?_
        exact zr_I hx hb hr hlocks hP hS h dX5_least_76
      · have h := h.2 hc
        refine lv_aload_n hx hb dX5_least_43 rfl (lv_at hl 0 rfl) ?_
        refine fg_5_14 hZ hx hb hts in5 hown hE hP kd0 lk53 dX5_least_44 ?_
        refine lv_aload_n hx hb dX5_least_47 rfl (lv_at hl 0 rfl) ?_
        refine fg_5_9 hZ hx hb hts in5 hown hE hP kd0 lk40 dX5_least_48 ?_
        refine lv_iload_n hx hb dX5_least_51 rfl (lv_at hl 1 rfl) ?_
        refine lv_iload_n hx hb dX5_least_52 rfl (lv_at hl 3 rfl) ?_
        refine zc_VV (As := [.ref (zq Z 5), .int x1, .int x3]) (rest := []) ⟨hx, hb, hml, hown, hts⟩ (cwV 3 hts gX5_least_X1_keep rfl rfl rfl hd_X1_keep ⟨Nat.le_of_ble_eq_true rfl, Nat.le_of_ble_eq_true rfl⟩) (mt_X1_keep l hZ σ _ kr_5_14 kr_5_9 x1 x3 _ h) (rc_1 hZ hE hP kr_5_14) hE hP hS rfl hl.1 rfl (Nat.le_of_ble_eq_true rfl) dX5_least_53 ⟨Nat.zero_le _, Nat.zero_le _⟩ (fun σ53 H locs h hP hS => ?_)
        refine lv_aload_n hx hb dX5_least_56 rfl (lv_at hl 0 rfl) ?_
        refine fg_5_14 hZ hx hb hts in5 hown hE hP kd0 lk53 dX5_least_57 ?_
        refine fg_1_3 hZ hx hb hts in1 hown hE hP kr_5_14 lk166 dX5_least_60 ?_
        refine lv_iload_n hx hb dX5_least_63 rfl (lv_at hl 2 rfl) ?_
        refine lv_icmp_gt (tgt := 69) hx hb dX5_least_64 (by decide) (fun hc => ?_) (fun hc => ?_)
        · have h := h.1 hc
          refine lv_iinc (v := (x3 + 1)) (lv' := [(3, .int (x3 + 1)), (0, .ref (zq Z 0)), (1, .int x1), (2, .int x2)]) hx hb dX5_least_69 hl (k := 3) rfl rfl (by decide) rfl (fun ls hl => ?_)
          refine lv_goto (tgt := 34) hx hb dX5_least_72 (by decide) ?_
          exact ih34 σ53 x1 x2 (x3 + 1) _ _ _ h hP hS (lv_sub hl [1, 2, 3, 0] rfl)
        · have h := h.2 hc
          refine lv_iload_n hx hb dX5_least_67 rfl (lv_at hl 3 rfl) ?_
          exact zr_I hx hb hr hlocks hP hS h dX5_least_68
  unfold wp_X5_least at h
  refine lv_iload_n hx hb dX5_least_0 rfl (lv_at hl 1 rfl) ?_
  refine lv_i2l hx hb dX5_least_1 rfl ?_
  refine lv_iconst (v := 0) hx hb dX5_least_2 (by decide) ?_
  refine lv_iconst (v := 2) hx hb dX5_least_3 (by decide) ?_
  refine zc_SI (As := [.long x1.toInt64, .int 0, .int 2]) (rest := []) ⟨hx, hb, hml, hown, hts⟩ (va_cwS 3 hts gX5_least_X5_isWithin rfl rfl rfl hd_X5_isWithin ⟨Nat.le_of_ble_eq_true rfl, Nat.le_of_ble_eq_true rfl⟩) (mt_X5_isWithin l hZ σ _ x1.toInt64 0 2 _ h) hE hP hS rfl hl.1 rfl (Nat.le_of_ble_eq_true rfl) dX5_least_4 ⟨Nat.zero_le _, Nat.zero_le _⟩ (fun r4 σ4 H locs h hP hS => ?_)
  refine lv_if_eq (tgt := 21) hx hb dX5_least_7 (by decide) (fun hc => ?_) (fun hc => ?_)
  · have h := h.1 hc
    refine lv_bipush (v := (-2)) hx hb dX5_least_21 (by decide) ?_
    exact zr_I hx hb hr hlocks hP hS h dX5_least_23
  · have h := h.2 hc
    refine lv_iload_n hx hb dX5_least_10 rfl (lv_at hl 2 rfl) ?_
    refine lv_i2l hx hb dX5_least_11 rfl ?_
    refine lv_iconst (v := 0) hx hb dX5_least_12 (by decide) ?_
    refine lv_bipush (v := 40) hx hb dX5_least_13 (by decide) ?_
    refine zc_SI (As := [.long x2.toInt64, .int 0, .int 40]) (rest := []) ⟨hx, hb, hml, hown, hts⟩ (va_cwS 3 hts gX5_least_X5_isWithin rfl rfl rfl hd_X5_isWithin ⟨Nat.le_of_ble_eq_true rfl, Nat.le_of_ble_eq_true rfl⟩) (mt_X5_isWithin l hZ σ4 _ x2.toInt64 0 40 _ h) hE hP hS rfl hl.1 rfl (Nat.le_of_ble_eq_true rfl) dX5_least_15 ⟨Nat.zero_le _, Nat.zero_le _⟩ (fun r15 σ15 H locs h hP hS => ?_)
    refine lv_if_ne (tgt := 24) hx hb dX5_least_18 (by decide) (fun hc => ?_) (fun hc => ?_)
    · have h := h.1 hc
      refine lv_aload_n hx hb dX5_least_24 rfl (lv_at hl 0 rfl) ?_
      refine zc_VV (As := []) (rest := []) ⟨hx, hb, hml, hown, hts⟩ (cwV 0 hts gX5_least_X5_followArrivals rfl rfl rfl hd_X5_followArrivals ⟨Nat.le_of_ble_eq_true rfl, Nat.le_of_ble_eq_true rfl⟩) (mt_X5_followArrivals l hZ σ15 _  _ h) (rc_5 hZ hE hP kd0) hE hP hS rfl hl.1 rfl (Nat.le_of_ble_eq_true rfl) dX5_least_25 ⟨Nat.zero_le _, Nat.zero_le _⟩ (fun σ25 H locs h hP hS => ?_)
      refine gs_lm hx hb hown hE hS lk194 dX5_least_28 ?_
      refine lv_iload_n hx hb dX5_least_31 rfl (lv_at hl 1 rfl) ?_
      obtain ⟨hin, h⟩ := h
      refine gt_lm hx hb hE hS hin dX5_least_32 ?_
      refine lv_istore_n (lv' := [(3, .int (lmA x1.toNatClampNeg)), (0, .ref (zq Z 0)), (1, .int x1), (2, .int x2)]) hx hb dX5_least_33 rfl hl (by decide) rfl (fun ls hl => ?_)
      obtain ⟨n, h⟩ := h
      exact B34 n σ25 x1 x2 (lmA x1.toNatClampNeg) _ _ _ h hP hS (lv_sub hl [1, 2, 3, 0] rfl)
    · have h := h.2 hc
      refine lv_bipush (v := (-2)) hx hb dX5_least_21 (by decide) ?_
      exact zr_I hx hb hr hlocks hP hS h dX5_least_23
theorem hd_X5_longestKeptBy : yX5_longestKeptBy.cls = RX5 ∧ yX5_longestKeptBy.cls ≠ "java/lang/invoke/MethodHandle" ∧ yX5_longestKeptBy.cls ≠ "java/lang/invoke/VarHandle" ∧ (parseMethodDescriptor yX5_longestKeptBy.desc).map (fun d => d.parameters.length) = some 1 := by decide +kernel
set_option maxHeartbeats 4000000 in
set_option maxRecDepth 100000 in
theorem mt_X5_longestKeptBy (l : Launch) {Z : ZW} (hZ : isC Z) (σ : SS) (sz : Nat) (x1 : Int32) (K : SS → Int32 → Prop) (h : wp_X5_longestKeptBy σ x1 K) : mtZ l yX5_longestKeptBy wsX5_longestKeptBy (rm9 0 0) Z [.ref (zq Z 0), .int x1] σ sz (qcI Z K sz) := by
  refine Met.ofW (cc := cX5_longestKeptBy) (maxL := 3) (ret := (some .int)) (by decide) rfl ?_
  intro p e s m args below meth c s₁ B hml hv
  obtain ⟨hargs, hsz, hP, hE1, hE2, hE3⟩ := hv
  subst hsz
  have hE : envZ Z s := ⟨hE1, hE2, hE3⟩
  have hx := B.exec
  have hb := B.bytes
  have hr := B.returns
  have hlocks := B.notSynchronized
  have hts := atoms_spec (ws := wsX5_longestKeptBy) B.pre
  have hown : s.vm.findClass RX5 = some m.cls := findClass_of_methodNamed B.named
  have hS : SZ Z s s.heap [] := va_S.rf
  obtain ⟨ls, hef, hl⟩ := z_entry m hargs (n := 3) (Nat.le_of_ble_eq_true rfl)
  rw [hef]
  have hl : lv_has ls 3 [(0, .ref (zq Z 0)), (1, .int x1)] := hl
  have in5 : ∀ w ∈ u_ws RX5 TX5 15, w ∈ wsX5_longestKeptBy := by decide +kernel
  have lk44 := hts (.fieldLink RX5 44 "BeatDoubts" "keptBy" "[I") (by decide +kernel)
  have B3 : ∀ (n : Nat) (σ : SS) (x1 : Int32) (x2 : Int32) (H : Heap) (locs : List Loc) (ls : Array Slot), fx3 (lb_X5_longestKeptBy_3 K) n σ x1 x2 → PZ Z σ H → SZ Z s H locs → lv_has ls 3 [(0, .ref (zq Z 0)), (1, .int x1), (2, .int x2)] → W p l e (headSpec wsX5_longestKeptBy (rm9 0 0)).room s m args below meth c H locs 0 0 (MQ below (qcI Z K s.heap.size) args s 0 0 (aZ Z s.heap.size)) (F0 m 3 ls []) := by
    intro n3
    induction n3 with
    | zero => intro σ x1 x2 H locs ls h; exact h.elim
    | succ n3 ih3 =>
      intro σ x1 x2 H locs ls h hP hS hl
      have h : lb_X5_longestKeptBy_3 K (fx3 (lb_X5_longestKeptBy_3 K) n3) σ x1 x2 := h
      unfold lb_X5_longestKeptBy_3 at h
      refine lv_iload_n hx hb dX5_longestKeptBy_3 rfl (lv_at hl 2 rfl) ?_
      refine lv_iconst (v := 1) hx hb dX5_longestKeptBy_4 (by decide) ?_
      refine lv_icmp_lt (tgt := 28) hx hb dX5_longestKeptBy_5 (by decide) (fun hc => ?_) (fun hc => ?_)
      · have h := h.1 hc
        refine lv_iconst (v := (-1)) hx hb dX5_longestKeptBy_28 (by decide) ?_
        exact zr_I hx hb hr hlocks hP hS h dX5_longestKeptBy_29
      · have h := h.2 hc
        refine lv_aload_n hx hb dX5_longestKeptBy_8 rfl (lv_at hl 0 rfl) ?_
        refine fg_5_11 hZ hx hb hts in5 hown hE hP kd0 lk44 dX5_longestKeptBy_9 ?_
        refine lv_iload_n hx hb dX5_longestKeptBy_12 rfl (lv_at hl 2 rfl) ?_
        obtain ⟨hin, h⟩ := h
        refine al_12 hZ hx hb hE hP kr_5_11 hin dX5_longestKeptBy_13 ?_
        refine lv_iload_n hx hb dX5_longestKeptBy_14 rfl (lv_at hl 1 rfl) ?_
        refine lv_iand hx hb dX5_longestKeptBy_15 ?_
        refine lv_iload_n hx hb dX5_longestKeptBy_16 rfl (lv_at hl 1 rfl) ?_
        refine lv_icmp_ne (tgt := 22) hx hb dX5_longestKeptBy_17 (by decide) (fun hc => ?_) (fun hc => ?_)
        · have h := h.1 hc
          refine lv_iinc (v := (x2 + (-1))) (lv' := [(2, .int (x2 + (-1))), (0, .ref (zq Z 0)), (1, .int x1)]) hx hb dX5_longestKeptBy_22 hl (k := 2) rfl rfl (by decide) rfl (fun ls hl => ?_)
          refine lv_goto (tgt := 3) hx hb dX5_longestKeptBy_25 (by decide) ?_
          exact ih3 σ x1 (x2 + (-1)) _ _ _ h hP hS (lv_sub hl [1, 2, 0] rfl)
        · have h := h.2 hc
          refine lv_iload_n hx hb dX5_longestKeptBy_20 rfl (lv_at hl 2 rfl) ?_
          exact zr_I hx hb hr hlocks hP hS h dX5_longestKeptBy_21
  unfold wp_X5_longestKeptBy at h
  refine lv_bipush (v := 50) hx hb dX5_longestKeptBy_0 (by decide) ?_
  refine lv_istore_n (lv' := [(2, .int 50), (0, .ref (zq Z 0)), (1, .int x1)]) hx hb dX5_longestKeptBy_2 rfl hl (by decide) rfl (fun ls hl => ?_)
  obtain ⟨n, h⟩ := h
  exact B3 n σ x1 50 _ _ _ h hP hS (lv_sub hl [1, 2, 0] rfl)
theorem hd_X5_weighPeriods : yX5_weighPeriods.cls = RX5 ∧ yX5_weighPeriods.cls ≠ "java/lang/invoke/MethodHandle" ∧ yX5_weighPeriods.cls ≠ "java/lang/invoke/VarHandle" ∧ (parseMethodDescriptor yX5_weighPeriods.desc).map (fun d => d.parameters.length) = some 0 := by decide +kernel
set_option maxHeartbeats 4000000 in
set_option maxRecDepth 100000 in
theorem mt_X5_weighPeriods (l : Launch) {Z : ZW} (hZ : isC Z) (σ : SS) (sz : Nat) (K : SS → Prop) (h : wp_X5_weighPeriods σ K) : mtZ l yX5_weighPeriods wsX5_weighPeriods (rm9 3 77) Z [.ref (zq Z 0)] σ sz (qcV Z K sz) := by
  refine Met.ofW (cc := cX5_weighPeriods) (maxL := 4) (ret := none) (by decide) rfl ?_
  intro p e s m args below meth c s₁ B hml hv
  obtain ⟨hargs, hsz, hP, hE1, hE2, hE3⟩ := hv
  subst hsz
  have hE : envZ Z s := ⟨hE1, hE2, hE3⟩
  have hx := B.exec
  have hb := B.bytes
  have hr := B.returns
  have hlocks := B.notSynchronized
  have hts := atoms_spec (ws := wsX5_weighPeriods) B.pre
  have hown : s.vm.findClass RX5 = some m.cls := findClass_of_methodNamed B.named
  have hS : SZ Z s s.heap [] := va_S.rf
  obtain ⟨ls, hef, hl⟩ := z_entry m hargs (n := 4) (Nat.le_of_ble_eq_true rfl)
  rw [hef]
  have hl : lv_has ls 4 [(0, .ref (zq Z 0))] := hl
  have in4 : ∀ w ∈ u_ws RX4 TX4 5, w ∈ wsX5_weighPeriods := by decide +kernel
  have in5 : ∀ w ∈ u_ws RX5 TX5 15, w ∈ wsX5_weighPeriods := by decide +kernel
  have lk140 := hts (.fieldLink RX5 140 "BeatDoubts" "watcherCount" "I") (by decide +kernel)
  have lk151 := hts (.fieldLink RX5 151 "BeatDoubts$Watcher" "sort" "I") (by decide +kernel)
  have lk154 := hts (.fieldLink RX5 154 "BeatDoubts$Watcher" "measure" "I") (by decide +kernel)
  have lk17 := hts (.fieldLink RX5 17 "BeatDoubts" "window" "I") (by decide +kernel)
  have lk20 := hts (.fieldLink RX5 20 "BeatDoubts" "silence" "I") (by decide +kernel)
  have lk25 := hts (.fieldLink RX5 25 "BeatDoubts" "watchers" "[LBeatDoubts$Watcher;") (by decide +kernel)
  have lk325 := hts (.fieldLink RX5 325 "BeatDoubts" "isWeighed" "Z") (by decide +kernel)
  have lk44 := hts (.fieldLink RX5 44 "BeatDoubts" "keptBy" "[I") (by decide +kernel)
  have lk47 := hts (.fieldLink RX5 47 "BeatDoubts" "triedArrivals" "LBeatDoubts$Arrivals;") (by decide +kernel)
  have lk53 := hts (.fieldLink RX5 53 "BeatDoubts" "triedDiary" "LBeatDoubts$Diary;") (by decide +kernel)
  have lk61 := hts (.fieldLink RX5 61 "BeatDoubts" "beatCount" "I") (by decide +kernel)
  have lk9 := hts (.fieldLink RX5 9 "BeatDoubts" "delays" "[I") (by decide +kernel)
  have B10 : ∀ (n : Nat) (σ : SS) (x1 : Int32) (H : Heap) (locs : List Loc) (ls : Array Slot), fx2 (lb_X5_weighPeriods_10 K) n σ x1 → PZ Z σ H → SZ Z s H locs → lv_has ls 4 [(0, .ref (zq Z 0)), (1, .int x1)] → W p l e (headSpec wsX5_weighPeriods (rm9 3 77)).room s m args below meth c H locs 0 0 (MQ below (qcV Z K s.heap.size) args s 0 0 (aZ Z s.heap.size)) (F0 m 10 ls []) := by
    intro n10
    induction n10 with
    | zero => intro σ x1 H locs ls h; exact h.elim
    | succ n10 ih10 =>
      have B49 : ∀ (n : Nat) (σ : SS) (x1 : Int32) (x2 : Int32) (H : Heap) (locs : List Loc) (ls : Array Slot), fx3 (lb_X5_weighPeriods_49 K (fx2 (lb_X5_weighPeriods_10 K) n10)) n σ x1 x2 → PZ Z σ H → SZ Z s H locs → lv_has ls 4 [(0, .ref (zq Z 0)), (1, .int x1), (2, .int x2)] → W p l e (headSpec wsX5_weighPeriods (rm9 3 77)).room s m args below meth c H locs 0 0 (MQ below (qcV Z K s.heap.size) args s 0 0 (aZ Z s.heap.size)) (F0 m 49 ls []) := by
        intro n49
        induction n49 with
        | zero => intro σ x1 x2 H locs ls h; exact h.elim
        | succ n49 ih49 =>
          intro σ x1 x2 H locs ls h hP hS hl
          have h : lb_X5_weighPeriods_49 K (fx2 (lb_X5_weighPeriods_10 K) n10) (fx3 (lb_X5_weighPeriods_49 K (fx2 (lb_X5_weighPeriods_10 K) n10)) n49) σ x1 x2 := h
          unfold lb_X5_weighPeriods_49 at h
          refine lv_iload_n hx hb dX5_weighPeriods_49 rfl (lv_at hl 2 rfl) ?_
          refine lv_aload_n hx hb dX5_weighPeriods_50 rfl (lv_at hl 0 rfl) ?_
          refine fg_5_6 hZ hx hb hts in5 hown hE hP kd0 lk140 dX5_weighPeriods_51 ?_
          refine lv_icmp_ge (tgt := 112) hx hb dX5_weighPeriods_54 (by decide) (fun hc => ?_) (fun hc => ?_)
          · have h := h.1 hc
            refine lv_iinc (v := (x1 + 1)) (lv' := [(1, .int (x1 + 1)), (0, .ref (zq Z 0)), (2, .int x2)]) hx hb dX5_weighPeriods_112 hl (k := 1) rfl rfl (by decide) rfl (fun ls hl => ?_)
            refine lv_goto (tgt := 10) hx hb dX5_weighPeriods_115 (by decide) ?_
            exact ih10 σ (x1 + 1) _ _ _ h hP hS (lv_sub hl [1, 0] rfl)
          · have h := h.2 hc
            refine lv_aload_n hx hb dX5_weighPeriods_57 rfl (lv_at hl 0 rfl) ?_
            refine fg_5_5 hZ hx hb hts in5 hown hE hP kd0 lk25 dX5_weighPeriods_58 ?_
            refine lv_iload_n hx hb dX5_weighPeriods_61 rfl (lv_at hl 2 rfl) ?_
            obtain ⟨hin62, h⟩ := h
            refine al_16 hZ hx hb hE hP kr_5_5 hin62 dX5_weighPeriods_62 ?_
            refine lv_astore_n (lv' := [(3, .ref (zq Z (26 + 6 * x2.toNatClampNeg))), (0, .ref (zq Z 0)), (1, .int x1), (2, .int x2)]) hx hb dX5_weighPeriods_63 rfl hl (by decide) rfl (fun ls hl => ?_)
            refine lv_aload_n hx hb dX5_weighPeriods_64 rfl (lv_at hl 1 rfl) ?_
            refine fg_5_14 hZ hx hb hts in5 hown hE hP kd0 lk53 dX5_weighPeriods_65 ?_
            refine lv_aload_n hx hb dX5_weighPeriods_68 rfl (lv_at hl 1 rfl) ?_
            refine fg_5_13 hZ hx hb hts in5 hown hE hP kd0 lk47 dX5_weighPeriods_69 ?_
            refine lv_aload_n hx hb dX5_weighPeriods_72 rfl (lv_at hl 0 rfl) ?_
            refine fg_4_0 hZ hx hb hts in4 hown hE hP (kWi hin62) lk151 dX5_weighPeriods_73 ?_
            refine lv_aload_n hx hb dX5_weighPeriods_76 rfl (lv_at hl 0 rfl) ?_
            refine fg_4_1 hZ hx hb hts in4 hown hE hP (kWi hin62) lk154 dX5_weighPeriods_77 ?_
            refine zc_VV (As := [.ref (zq Z 13), .int (gI σ (26 + 6 * x2.toNatClampNeg) 0), .int (gI σ (26 + 6 * x2.toNatClampNeg) 1)]) (rest := []) ⟨hx, hb, hml, hown, hts⟩ (cwV 3 hts gX5_weighPeriods_X1_keep rfl rfl rfl hd_X1_keep ⟨Nat.le_of_ble_eq_true rfl, Nat.le_of_ble_eq_true rfl⟩) (mt_X1_keep l hZ σ _ kr_5_14 kr_5_13 (gI σ (26 + 6 * x2.toNatClampNeg) 0) (gI σ (26 + 6 * x2.toNatClampNeg) 1) _ h) (rc_1 hZ hE hP kr_5_14) hE hP hS rfl hl.1 rfl (Nat.le_of_ble_eq_true rfl) dX5_weighPeriods_80 ⟨Nat.zero_le _, Nat.zero_le _⟩ (fun σ80 H locs h hP hS => ?_)
            refine lv_aload_n hx hb dX5_weighPeriods_83 rfl (lv_at hl 0 rfl) ?_
            refine lv_aload_n hx hb dX5_weighPeriods_84 rfl (lv_at hl 1 rfl) ?_
            refine fg_5_14 hZ hx hb hts in5 hown hE hP kd0 lk53 dX5_weighPeriods_85 ?_
            refine zc_VI (As := [.ref (zq Z 21)]) (rest := []) ⟨hx, hb, hml, hown, hts⟩ (cwV 1 hts gX5_weighPeriods_X4_keepsWishes rfl rfl rfl hd_X4_keepsWishes ⟨Nat.le_of_ble_eq_true rfl, Nat.le_of_ble_eq_true rfl⟩) (mt_X4_keepsWishes l hZ σ80 _ (kWi hin62) kr_5_14 _ h) (rc_4 hZ hE hP (kWi hin62)) hE hP hS rfl hl.1 rfl (Nat.le_of_ble_eq_true rfl) dX5_weighPeriods_88 ⟨Nat.zero_le _, Nat.zero_le _⟩ (fun r88 σ88 H locs h hP hS => ?_)
            refine lv_if_eq (tgt := 106) hx hb dX5_weighPeriods_91 (by decide) (fun hc => ?_) (fun hc => ?_)
            · have h := h.1 hc
              refine lv_iinc (v := (x2 + 1)) (lv' := [(2, .int (x2 + 1)), (3, .ref (zq Z (26 + 6 * x2.toNatClampNeg))), (0, .ref (zq Z 0)), (1, .int x1)]) hx hb dX5_weighPeriods_106 hl (k := 3) rfl rfl (by decide) rfl (fun ls hl => ?_)
              refine lv_goto (tgt := 49) hx hb dX5_weighPeriods_109 (by decide) ?_
              exact ih49 σ88 x1 (x2 + 1) _ _ _ h hP hS (lv_sub hl [2, 3, 0] rfl)
            · have h := h.2 hc
              refine lv_aload_n hx hb dX5_weighPeriods_94 rfl (lv_at hl 1 rfl) ?_
              refine fg_5_11 hZ hx hb hts in5 hown hE hP kd0 lk44 dX5_weighPeriods_95 ?_
              refine lv_iload_n hx hb dX5_weighPeriods_98 rfl (lv_at hl 2 rfl) ?_
              refine lv_dup2_11 hx hb dX5_weighPeriods_99 rfl rfl ?_
              obtain ⟨hin, h⟩ := h
              refine al_12 hZ hx hb hE hP kr_5_11 hin dX5_weighPeriods_100 ?_
              refine lv_iconst (v := 1) hx hb dX5_weighPeriods_101 (by decide) ?_
              refine lv_iload_n hx hb dX5_weighPeriods_102 rfl (lv_at hl 3 rfl) ?_
              refine lv_ishl hx hb dX5_weighPeriods_103 ?_
              refine lv_ior hx hb dX5_weighPeriods_104 ?_
              obtain ⟨hin, h⟩ := h
              refine as_12 hZ hx hb hE hP hS kr_5_11 hin dX5_weighPeriods_105 (fun H locs hP hS => ?_)
              refine lv_iinc (v := (x2 + 1)) (lv' := [(2, .int (x2 + 1)), (3, .ref (zq Z (26 + 6 * x2.toNatClampNeg))), (0, .ref (zq Z 0)), (1, .int x1)]) hx hb dX5_weighPeriods_106 hl (k := 3) rfl rfl (by decide) rfl (fun ls hl => ?_)
              refine lv_goto (tgt := 49) hx hb dX5_weighPeriods_109 (by decide) ?_
              exact ih49 (sA σ88 4 x1.toNatClampNeg ((gA σ88 4 x1.toNatClampNeg) ||| ((1 : Int32) <<< (x2 &&& 31)))) x1 (x2 + 1) _ _ _ h hP hS (lv_sub hl [2, 3, 0] rfl)
      intro σ x1 H locs ls h hP hS hl
      have h : lb_X5_weighPeriods_10 K (fx2 (lb_X5_weighPeriods_10 K) n10) σ x1 := h
      unfold lb_X5_weighPeriods_10 at h
      refine lv_iload_n hx hb dX5_weighPeriods_10 rfl (lv_at hl 1 rfl) ?_
      refine lv_bipush (v := 50) hx hb dX5_weighPeriods_11 (by decide) ?_
      refine lv_icmp_gt (tgt := 118) hx hb dX5_weighPeriods_13 (by decide) (fun hc => ?_) (fun hc => ?_)
      · have h := h.1 hc
        refine lv_aload_n hx hb dX5_weighPeriods_118 rfl (lv_at hl 0 rfl) ?_
        refine lv_iconst (v := 1) hx hb dX5_weighPeriods_119 (by decide) ?_
        refine fp_5_12 hZ hx hb hts in5 hown hE hP hS kd0 lk325 (by decide) dX5_weighPeriods_120 (fun H locs hP hS => ?_)
        exact zr_V hx hb hr hlocks hP hS h dX5_weighPeriods_123
      · have h := h.2 hc
        refine lv_aload_n hx hb dX5_weighPeriods_16 rfl (lv_at hl 0 rfl) ?_
        refine fg_5_13 hZ hx hb hts in5 hown hE hP kd0 lk47 dX5_weighPeriods_17 ?_
        refine lv_aload_n hx hb dX5_weighPeriods_20 rfl (lv_at hl 0 rfl) ?_
        refine fg_5_0 hZ hx hb hts in5 hown hE hP kd0 lk9 dX5_weighPeriods_21 ?_
        refine lv_aload_n hx hb dX5_weighPeriods_24 rfl (lv_at hl 0 rfl) ?_
        refine fg_5_1 hZ hx hb hts in5 hown hE hP kd0 lk61 dX5_weighPeriods_25 ?_
        refine lv_iload_n hx hb dX5_weighPeriods_28 rfl (lv_at hl 1 rfl) ?_
        refine lv_aload_n hx hb dX5_weighPeriods_29 rfl (lv_at hl 0 rfl) ?_
        refine fg_5_3 hZ hx hb hts in5 hown hE hP kd0 lk17 dX5_weighPeriods_30 ?_
        refine lv_aload_n hx hb dX5_weighPeriods_33 rfl (lv_at hl 0 rfl) ?_
        refine fg_5_4 hZ hx hb hts in5 hown hE hP kd0 lk20 dX5_weighPeriods_34 ?_
        refine zc_VV (As := [.ref (zq Z 1), .int (gI σ 0 1), .int x1, .int (gI σ 0 3), .int (gI σ 0 4)]) (rest := []) ⟨hx, hb, hml, hown, hts⟩ (cwV 5 hts gX5_weighPeriods_X0_follow rfl rfl rfl hd_X0_follow ⟨Nat.le_of_ble_eq_true rfl, Nat.le_of_ble_eq_true rfl⟩) (mt_X0_follow l hZ σ _ kr_5_13 kr_5_0 (gI σ 0 1) x1 (gI σ 0 3) (gI σ 0 4) _ h) (rc_0 hZ hE hP kr_5_13) hE hP hS rfl hl.1 rfl (Nat.le_of_ble_eq_true rfl) dX5_weighPeriods_37 ⟨Nat.zero_le _, Nat.zero_le _⟩ (fun σ37 H locs h hP hS => ?_)
        refine lv_aload_n hx hb dX5_weighPeriods_40 rfl (lv_at hl 0 rfl) ?_
        refine fg_5_11 hZ hx hb hts in5 hown hE hP kd0 lk44 dX5_weighPeriods_41 ?_
        refine lv_iload_n hx hb dX5_weighPeriods_44 rfl (lv_at hl 1 rfl) ?_
        refine lv_iconst (v := 0) hx hb dX5_weighPeriods_45 (by decide) ?_
        obtain ⟨hin, h⟩ := h
        refine as_12 hZ hx hb hE hP hS kr_5_11 hin dX5_weighPeriods_46 (fun H locs hP hS => ?_)
        refine lv_iconst (v := 0) hx hb dX5_weighPeriods_47 (by decide) ?_
        refine lv_istore_n (lv' := [(2, .int 0), (0, .ref (zq Z 0)), (1, .int x1)]) hx hb dX5_weighPeriods_48 rfl hl (by decide) rfl (fun ls hl => ?_)
        obtain ⟨n, h⟩ := h
        exact B49 n (sA σ37 4 x1.toNatClampNeg 0) x1 0 _ _ _ h hP hS (lv_sub hl [1, 2, 0] rfl)
  unfold wp_X5_weighPeriods at h
  refine lv_aload_n hx hb dX5_weighPeriods_0 rfl (lv_at hl 0 rfl) ?_
  refine fg_5_12 hZ hx hb hts in5 hown hE hP kd0 lk325 dX5_weighPeriods_1 ?_
  refine lv_if_eq (tgt := 8) hx hb dX5_weighPeriods_4 (by decide) (fun hc => ?_) (fun hc => ?_)
  · have h := h.1 hc
    refine lv_iconst (v := 1) hx hb dX5_weighPeriods_8 (by decide) ?_
    refine lv_istore_n (lv' := [(1, .int 1), (0, .ref (zq Z 0))]) hx hb dX5_weighPeriods_9 rfl hl (by decide) rfl (fun ls hl => ?_)
    obtain ⟨n, h⟩ := h
    exact B10 n σ 1 _ _ _ h hP hS (lv_sub hl [1, 0] rfl)
  · have h := h.2 hc
    exact zr_V hx hb hr hlocks hP hS h dX5_weighPeriods_7
