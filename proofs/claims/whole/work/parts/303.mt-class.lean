theorem hd_X5_followArrivals : yX5_followArrivals.cls = RX5 ∧ yX5_followArrivals.cls ≠ "java/lang/invoke/MethodHandle" ∧ yX5_followArrivals.cls ≠ "java/lang/invoke/VarHandle" ∧ (parseMethodDescriptor yX5_followArrivals.desc).map (fun d => d.parameters.length) = some 0 := by decide +kernel
set_option maxHeartbeats 4000000 in
set_option maxRecDepth 100000 in
theorem mt_X5_followArrivals (l : Launch) {Z : ZW} (hZ : isC Z) (σ : SS) (sz : Nat) (K : SS → Prop) (h : wp_X5_followArrivals σ K) : mtZ l yX5_followArrivals wsX5_followArrivals (rm9 3 77) Z [.ref (zq Z 0)] σ sz (qcV Z K sz) := by
  refine Met.ofW (cc := cX5_followArrivals) (maxL := 2) (ret := none) (by decide) rfl ?_
  intro p e s m args below meth c s₁ B hml hv
  obtain ⟨hargs, hsz, hP, hE1, hE2, hE3⟩ := hv
  subst hsz
  have hE : envZ Z s := ⟨hE1, hE2, hE3⟩
  have hx := B.exec
  have hb := B.bytes
  have hr := B.returns
  have hlocks := B.notSynchronized
  have hts := atoms_spec (ws := wsX5_followArrivals) B.pre
  have hown : s.vm.findClass RX5 = some m.cls := findClass_of_methodNamed B.named
  have hS : SZ Z s s.heap [] := va_S.rf
  obtain ⟨ls, hef, hl⟩ := z_entry m hargs (n := 2) (Nat.le_of_ble_eq_true rfl)
  rw [hef]
  have hl : lv_has ls 2 [(0, .ref (zq Z 0))] := hl
  have in4 : ∀ w ∈ u_ws RX4 TX4 5, w ∈ wsX5_followArrivals := by decide +kernel
  have in5 : ∀ w ∈ u_ws RX5 TX5 15, w ∈ wsX5_followArrivals := by decide +kernel
  have lk13 := hts (.fieldLink RX5 13 "BeatDoubts" "period" "I") (by decide +kernel)
  have lk140 := hts (.fieldLink RX5 140 "BeatDoubts" "watcherCount" "I") (by decide +kernel)
  have lk151 := hts (.fieldLink RX5 151 "BeatDoubts$Watcher" "sort" "I") (by decide +kernel)
  have lk154 := hts (.fieldLink RX5 154 "BeatDoubts$Watcher" "measure" "I") (by decide +kernel)
  have lk163 := hts (.fieldLink RX5 163 "BeatDoubts$Watcher" "diary" "LBeatDoubts$Diary;") (by decide +kernel)
  have lk17 := hts (.fieldLink RX5 17 "BeatDoubts" "window" "I") (by decide +kernel)
  have lk20 := hts (.fieldLink RX5 20 "BeatDoubts" "silence" "I") (by decide +kernel)
  have lk25 := hts (.fieldLink RX5 25 "BeatDoubts" "watchers" "[LBeatDoubts$Watcher;") (by decide +kernel)
  have lk322 := hts (.fieldLink RX5 322 "BeatDoubts" "isFollowed" "Z") (by decide +kernel)
  have lk40 := hts (.fieldLink RX5 40 "BeatDoubts" "arrivals" "LBeatDoubts$Arrivals;") (by decide +kernel)
  have lk61 := hts (.fieldLink RX5 61 "BeatDoubts" "beatCount" "I") (by decide +kernel)
  have lk9 := hts (.fieldLink RX5 9 "BeatDoubts" "delays" "[I") (by decide +kernel)
  have B37 : ∀ (n : Nat) (σ : SS) (x1 : Int32) (H : Heap) (locs : List Loc) (ls : Array Slot), fx2 (lb_X5_followArrivals_37 K) n σ x1 → PZ Z σ H → SZ Z s H locs → lv_has ls 2 [(0, .ref (zq Z 0)), (1, .int x1)] → W p l e (headSpec wsX5_followArrivals (rm9 3 77)).room s m args below meth c H locs 0 0 (MQ below (qcV Z K s.heap.size) args s 0 0 (aZ Z s.heap.size)) (F0 m 37 ls []) := by
    intro n37
    induction n37 with
    | zero => intro σ x1 H locs ls h; exact h.elim
    | succ n37 ih37 =>
      intro σ x1 H locs ls h hP hS hl
      have h : lb_X5_followArrivals_37 K (fx2 (lb_X5_followArrivals_37 K) n37) σ x1 := h
      unfold lb_X5_followArrivals_37 at h
      refine lv_iload_n hx hb dX5_followArrivals_37 rfl (lv_at hl 1 rfl) ?_
      refine lv_aload_n hx hb dX5_followArrivals_38 rfl (lv_at hl 0 rfl) ?_
      refine fg_5_6 hZ hx hb hts in5 hown hE hP kd0 lk140 dX5_followArrivals_39 ?_
      refine lv_icmp_ge (tgt := 85) hx hb dX5_followArrivals_42 (by decide) (fun hc => ?_) (fun hc => ?_)
      · have h := h.1 hc
        refine lv_aload_n hx hb dX5_followArrivals_85 rfl (lv_at hl 0 rfl) ?_
        refine lv_iconst (v := 1) hx hb dX5_followArrivals_86 (by decide) ?_
        refine fp_5_10 hZ hx hb hts in5 hown hE hP hS kd0 lk322 (by decide) dX5_followArrivals_87 (fun H locs hP hS => ?_)
        exact zr_V hx hb hr hlocks hP hS h dX5_followArrivals_90
      · have h := h.2 hc
        refine lv_aload_n hx hb dX5_followArrivals_45 rfl (lv_at hl 0 rfl) ?_
        refine fg_5_5 hZ hx hb hts in5 hown hE hP kd0 lk25 dX5_followArrivals_46 ?_
        refine lv_iload_n hx hb dX5_followArrivals_49 rfl (lv_at hl 1 rfl) ?_
        obtain ⟨hin50, h⟩ := h
        refine al_16 hZ hx hb hE hP kr_5_5 hin50 dX5_followArrivals_50 ?_
        refine fg_4_4 hZ hx hb hts in4 hown hE hP (kWi hin50) lk163 dX5_followArrivals_51 ?_
        refine lv_aload_n hx hb dX5_followArrivals_54 rfl (lv_at hl 0 rfl) ?_
        refine fg_5_9 hZ hx hb hts in5 hown hE hP kd0 lk40 dX5_followArrivals_55 ?_
        refine lv_aload_n hx hb dX5_followArrivals_58 rfl (lv_at hl 0 rfl) ?_
        refine fg_5_5 hZ hx hb hts in5 hown hE hP kd0 lk25 dX5_followArrivals_59 ?_
        refine lv_iload_n hx hb dX5_followArrivals_62 rfl (lv_at hl 1 rfl) ?_
        obtain ⟨hin63, h⟩ := h
        refine al_16 hZ hx hb hE hP kr_5_5 hin63 dX5_followArrivals_63 ?_
        refine fg_4_0 hZ hx hb hts in4 hown hE hP (kWi hin63) lk151 dX5_followArrivals_64 ?_
        refine lv_aload_n hx hb dX5_followArrivals_67 rfl (lv_at hl 0 rfl) ?_
        refine fg_5_5 hZ hx hb hts in5 hown hE hP kd0 lk25 dX5_followArrivals_68 ?_
        refine lv_iload_n hx hb dX5_followArrivals_71 rfl (lv_at hl 1 rfl) ?_
        obtain ⟨hin72, h⟩ := h
        refine al_16 hZ hx hb hE hP kr_5_5 hin72 dX5_followArrivals_72 ?_
        refine fg_4_1 hZ hx hb hts in4 hown hE hP (kWi hin72) lk154 dX5_followArrivals_73 ?_
        refine zc_VV (As := [.ref (zq Z 5), .int (gI σ (26 + 6 * x1.toNatClampNeg) 0), .int (gI σ (26 + 6 * x1.toNatClampNeg) 1)]) (rest := []) ⟨hx, hb, hml, hown, hts⟩ (cwV 3 hts gX5_followArrivals_X1_keep rfl rfl rfl hd_X1_keep ⟨Nat.le_of_ble_eq_true rfl, Nat.le_of_ble_eq_true rfl⟩) (mt_X1_keep l hZ σ _ (kr_4_4 (kWi hin50)) kr_5_9 (gI σ (26 + 6 * x1.toNatClampNeg) 0) (gI σ (26 + 6 * x1.toNatClampNeg) 1) _ h) (rc_1 hZ hE hP (kr_4_4 (kWi hin50))) hE hP hS rfl hl.1 rfl (Nat.le_of_ble_eq_true rfl) dX5_followArrivals_76 ⟨Nat.zero_le _, Nat.zero_le _⟩ (fun σ76 H locs h hP hS => ?_)
        refine lv_iinc (v := (x1 + 1)) (lv' := [(1, .int (x1 + 1)), (0, .ref (zq Z 0))]) hx hb dX5_followArrivals_79 hl (k := 1) rfl rfl (by decide) rfl (fun ls hl => ?_)
        refine lv_goto (tgt := 37) hx hb dX5_followArrivals_82 (by decide) ?_
        exact ih37 σ76 (x1 + 1) _ _ _ h hP hS (lv_sub hl [1, 0] rfl)
  unfold wp_X5_followArrivals at h
  refine lv_aload_n hx hb dX5_followArrivals_0 rfl (lv_at hl 0 rfl) ?_
  refine fg_5_10 hZ hx hb hts in5 hown hE hP kd0 lk322 dX5_followArrivals_1 ?_
  refine lv_if_eq (tgt := 8) hx hb dX5_followArrivals_4 (by decide) (fun hc => ?_) (fun hc => ?_)
  · have h := h.1 hc
    refine lv_aload_n hx hb dX5_followArrivals_8 rfl (lv_at hl 0 rfl) ?_
    refine fg_5_9 hZ hx hb hts in5 hown hE hP kd0 lk40 dX5_followArrivals_9 ?_
    refine lv_aload_n hx hb dX5_followArrivals_12 rfl (lv_at hl 0 rfl) ?_
    refine fg_5_0 hZ hx hb hts in5 hown hE hP kd0 lk9 dX5_followArrivals_13 ?_
    refine lv_aload_n hx hb dX5_followArrivals_16 rfl (lv_at hl 0 rfl) ?_
    refine fg_5_1 hZ hx hb hts in5 hown hE hP kd0 lk61 dX5_followArrivals_17 ?_
    refine lv_aload_n hx hb dX5_followArrivals_20 rfl (lv_at hl 0 rfl) ?_
    refine fg_5_2 hZ hx hb hts in5 hown hE hP kd0 lk13 dX5_followArrivals_21 ?_
    refine lv_aload_n hx hb dX5_followArrivals_24 rfl (lv_at hl 0 rfl) ?_
    refine fg_5_3 hZ hx hb hts in5 hown hE hP kd0 lk17 dX5_followArrivals_25 ?_
    refine lv_aload_n hx hb dX5_followArrivals_28 rfl (lv_at hl 0 rfl) ?_
    refine fg_5_4 hZ hx hb hts in5 hown hE hP kd0 lk20 dX5_followArrivals_29 ?_
    refine zc_VV (As := [.ref (zq Z 1), .int (gI σ 0 1), .int (gI σ 0 2), .int (gI σ 0 3), .int (gI σ 0 4)]) (rest := []) ⟨hx, hb, hml, hown, hts⟩ (cwV 5 hts gX5_followArrivals_X0_follow rfl rfl rfl hd_X0_follow ⟨Nat.le_of_ble_eq_true rfl, Nat.le_of_ble_eq_true rfl⟩) (mt_X0_follow l hZ σ _ kr_5_9 kr_5_0 (gI σ 0 1) (gI σ 0 2) (gI σ 0 3) (gI σ 0 4) _ h) (rc_0 hZ hE hP kr_5_9) hE hP hS rfl hl.1 rfl (Nat.le_of_ble_eq_true rfl) dX5_followArrivals_32 ⟨Nat.zero_le _, Nat.zero_le _⟩ (fun σ32 H locs h hP hS => ?_)
    refine lv_iconst (v := 0) hx hb dX5_followArrivals_35 (by decide) ?_
    refine lv_istore_n (lv' := [(1, .int 0), (0, .ref (zq Z 0))]) hx hb dX5_followArrivals_36 rfl hl (by decide) rfl (fun ls hl => ?_)
    obtain ⟨n, h⟩ := h
    exact B37 n σ32 0 _ _ _ h hP hS (lv_sub hl [1, 0] rfl)
  · have h := h.2 hc
    exact zr_V hx hb hr hlocks hP hS h dX5_followArrivals_7
theorem hd_X5_came : yX5_came.cls = RX5 ∧ yX5_came.cls ≠ "java/lang/invoke/MethodHandle" ∧ yX5_came.cls ≠ "java/lang/invoke/VarHandle" ∧ (parseMethodDescriptor yX5_came.desc).map (fun d => d.parameters.length) = some 2 := by decide +kernel
set_option maxHeartbeats 4000000 in
set_option maxRecDepth 100000 in
theorem mt_X5_came (l : Launch) {Z : ZW} (hZ : isC Z) (σ : SS) (sz : Nat) (x1 : Int32) (x2 : Int32) (K : SS → Int32 → Prop) (h : wp_X5_came σ x1 x2 K) : mtZ l yX5_came wsX5_came (rm9 4 98) Z [.ref (zq Z 0), .int x1, .int x2] σ sz (qcI Z K sz) := by
  refine Met.ofW (cc := cX5_came) (maxL := 4) (ret := (some .int)) (by decide) rfl ?_
  intro p e s m args below meth c s₁ B hml hv
  obtain ⟨hargs, hsz, hP, hE1, hE2, hE3⟩ := hv
  subst hsz
  have hE : envZ Z s := ⟨hE1, hE2, hE3⟩
  have hx := B.exec
  have hb := B.bytes
  have hr := B.returns
  have hlocks := B.notSynchronized
  have hts := atoms_spec (ws := wsX5_came) B.pre
  have hown : s.vm.findClass RX5 = some m.cls := findClass_of_methodNamed B.named
  have hS : SZ Z s s.heap [] := va_S.rf
  obtain ⟨ls, hef, hl⟩ := z_entry m hargs (n := 4) (Nat.le_of_ble_eq_true rfl)
  rw [hef]
  have hl : lv_has ls 4 [(0, .ref (zq Z 0)), (1, .int x1), (2, .int x2)] := hl
  have in0 : ∀ w ∈ u_ws RX0 TX0 10, w ∈ wsX5_came := by decide +kernel
  have in5 : ∀ w ∈ u_ws RX5 TX5 15, w ∈ wsX5_came := by decide +kernel
  have lk100 := hts (.fieldLink RX5 100 "BeatDoubts$Arrivals" "newsOfBeat" "[I") (by decide +kernel)
  have lk40 := hts (.fieldLink RX5 40 "BeatDoubts" "arrivals" "LBeatDoubts$Arrivals;") (by decide +kernel)
  have lk61 := hts (.fieldLink RX5 61 "BeatDoubts" "beatCount" "I") (by decide +kernel)
  have lk9 := hts (.fieldLink RX5 9 "BeatDoubts" "delays" "[I") (by decide +kernel)
  have lk97 := hts (.fieldLink RX5 97 "BeatDoubts$Arrivals" "timeOfBeat" "[I") (by decide +kernel)
  unfold wp_X5_came at h
  refine lv_iload_n hx hb dX5_came_0 rfl (lv_at hl 1 rfl) ?_
  refine lv_i2l hx hb dX5_came_1 rfl ?_
  refine lv_iconst (v := 0) hx hb dX5_came_2 (by decide) ?_
  refine lv_aload_n hx hb dX5_came_3 rfl (lv_at hl 0 rfl) ?_
  refine fg_5_1 hZ hx hb hts in5 hown hE hP kd0 lk61 dX5_came_4 ?_
  refine lv_iconst (v := 1) hx hb dX5_came_7 (by decide) ?_
  refine lv_isub hx hb dX5_came_8 ?_
  refine zc_SI (As := [.long x1.toInt64, .int 0, .int ((gI σ 0 1) - 1)]) (rest := []) ⟨hx, hb, hml, hown, hts⟩ (va_cwS 3 hts gX5_came_X5_isWithin rfl rfl rfl hd_X5_isWithin ⟨Nat.le_of_ble_eq_true rfl, Nat.le_of_ble_eq_true rfl⟩) (mt_X5_isWithin l hZ σ _ x1.toInt64 0 ((gI σ 0 1) - 1) _ h) hE hP hS rfl hl.1 rfl (Nat.le_of_ble_eq_true rfl) dX5_came_9 ⟨Nat.zero_le _, Nat.zero_le _⟩ (fun r9 σ9 H locs h hP hS => ?_)
  refine lv_if_eq (tgt := 25) hx hb dX5_came_12 (by decide) (fun hc => ?_) (fun hc => ?_)
  · have h := h.1 hc
    refine lv_bipush (v := (-2)) hx hb dX5_came_25 (by decide) ?_
    exact zr_I hx hb hr hlocks hP hS h dX5_came_27
  · have h := h.2 hc
    refine lv_iload_n hx hb dX5_came_15 rfl (lv_at hl 2 rfl) ?_
    refine lv_i2l hx hb dX5_came_16 rfl ?_
    refine lv_iconst (v := 0) hx hb dX5_came_17 (by decide) ?_
    refine lv_iconst (v := 2) hx hb dX5_came_18 (by decide) ?_
    refine zc_SI (As := [.long x2.toInt64, .int 0, .int 2]) (rest := []) ⟨hx, hb, hml, hown, hts⟩ (va_cwS 3 hts gX5_came_X5_isWithin rfl rfl rfl hd_X5_isWithin ⟨Nat.le_of_ble_eq_true rfl, Nat.le_of_ble_eq_true rfl⟩) (mt_X5_isWithin l hZ σ9 _ x2.toInt64 0 2 _ h) hE hP hS rfl hl.1 rfl (Nat.le_of_ble_eq_true rfl) dX5_came_19 ⟨Nat.zero_le _, Nat.zero_le _⟩ (fun r19 σ19 H locs h hP hS => ?_)
    refine lv_if_ne (tgt := 28) hx hb dX5_came_22 (by decide) (fun hc => ?_) (fun hc => ?_)
    · have h := h.1 hc
      refine lv_aload_n hx hb dX5_came_28 rfl (lv_at hl 0 rfl) ?_
      refine zc_VV (As := []) (rest := []) ⟨hx, hb, hml, hown, hts⟩ (cwV 0 hts gX5_came_X5_followArrivals rfl rfl rfl hd_X5_followArrivals ⟨Nat.le_of_ble_eq_true rfl, Nat.le_of_ble_eq_true rfl⟩) (mt_X5_followArrivals l hZ σ19 _  _ h) (rc_5 hZ hE hP kd0) hE hP hS rfl hl.1 rfl (Nat.le_of_ble_eq_true rfl) dX5_came_29 ⟨Nat.zero_le _, Nat.zero_le _⟩ (fun σ29 H locs h hP hS => ?_)
      refine lv_aload_n hx hb dX5_came_32 rfl (lv_at hl 0 rfl) ?_
      refine fg_5_9 hZ hx hb hts in5 hown hE hP kd0 lk40 dX5_came_33 ?_
      refine fg_0_0 hZ hx hb hts in0 hown hE hP kr_5_9 lk97 dX5_came_36 ?_
      refine lv_iload_n hx hb dX5_came_39 rfl (lv_at hl 1 rfl) ?_
      obtain ⟨hin, h⟩ := h
      refine al_10 hZ hx hb hE hP (kr_0_0 kr_5_9) hin dX5_came_40 ?_
      refine lv_istore_n (lv' := [(3, .int (gA σ29 (5 + 1) x1.toNatClampNeg)), (0, .ref (zq Z 0)), (1, .int x1), (2, .int x2)]) hx hb dX5_came_41 rfl hl (by decide) rfl (fun ls hl => ?_)
      refine lv_iload_n hx hb dX5_came_42 rfl (lv_at hl 3 rfl) ?_
      by_cases hc0 : x2 = 0
      · have h := h.1 hc0
        refine lv_lookup (tgt := 68) hx hb dX5_came_43 (by decide) (by rw [hc0] <;> rfl) (by decide) ?_
        refine lv_iload_n hx hb dX5_came_68 rfl (lv_at hl 0 rfl) ?_
        refine lv_iconst (v := (-1)) hx hb dX5_came_69 (by decide) ?_
        refine lv_icmp_ne (tgt := 77) hx hb dX5_came_70 (by decide) (fun hc => ?_) (fun hc => ?_)
        · have h := h.1 hc
          refine lv_aload_n hx hb dX5_came_77 rfl (lv_at hl 1 rfl) ?_
          refine fg_5_0 hZ hx hb hts in5 hown hE hP kd0 lk9 dX5_came_78 ?_
          refine lv_iload_n hx hb dX5_came_81 rfl (lv_at hl 2 rfl) ?_
          obtain ⟨hin, h⟩ := h
          refine al_10 hZ hx hb hE hP kr_5_0 hin dX5_came_82 ?_
          exact zr_I hx hb hr hlocks hP hS h dX5_came_83
        · have h := h.2 hc
          refine lv_iconst (v := (-1)) hx hb dX5_came_73 (by decide) ?_
          refine lv_goto (tgt := 83) hx hb dX5_came_74 (by decide) ?_
          exact zr_I hx hb hr hlocks hP hS h dX5_came_83
      by_cases hc1 : x2 = 1
      · have h := h.2.1 hc1
        refine lv_lookup (tgt := 84) hx hb dX5_came_43 (by decide) (by rw [hc1] <;> rfl) (by decide) ?_
        refine lv_iload_n hx hb dX5_came_84 rfl (lv_at hl 0 rfl) ?_
        exact zr_I hx hb hr hlocks hP hS h dX5_came_85
      have h := h.2.2 hc0 hc1
      refine lv_lookup (tgt := 86) hx hb dX5_came_43 (by decide) (lsw_out2 hc0 hc1) (by decide) ?_
      refine lv_aload_n hx hb dX5_came_86 rfl (lv_at hl 1 rfl) ?_
      refine fg_5_9 hZ hx hb hts in5 hown hE hP kd0 lk40 dX5_came_87 ?_
      refine fg_0_1 hZ hx hb hts in0 hown hE hP kr_5_9 lk100 dX5_came_90 ?_
      refine lv_iload_n hx hb dX5_came_93 rfl (lv_at hl 2 rfl) ?_
      obtain ⟨hin, h⟩ := h
      refine al_10 hZ hx hb hE hP (kr_0_1 kr_5_9) hin dX5_came_94 ?_
      exact zr_I hx hb hr hlocks hP hS h dX5_came_95
    · have h := h.2 hc
      refine lv_bipush (v := (-2)) hx hb dX5_came_25 (by decide) ?_
      exact zr_I hx hb hr hlocks hP hS h dX5_came_27
theorem hd_X5_news : yX5_news.cls = RX5 ∧ yX5_news.cls ≠ "java/lang/invoke/MethodHandle" ∧ yX5_news.cls ≠ "java/lang/invoke/VarHandle" ∧ (parseMethodDescriptor yX5_news.desc).map (fun d => d.parameters.length) = some 2 := by decide +kernel
set_option maxHeartbeats 4000000 in
set_option maxRecDepth 100000 in
theorem mt_X5_news (l : Launch) {Z : ZW} (hZ : isC Z) (σ : SS) (sz : Nat) (x1 : Int32) (x2 : Int32) (K : SS → Int32 → Prop) (h : wp_X5_news σ x1 x2 K) : mtZ l yX5_news wsX5_news (rm9 4 98) Z [.ref (zq Z 0), .int x1, .int x2] σ sz (qcI Z K sz) := by
  refine Met.ofW (cc := cX5_news) (maxL := 3) (ret := (some .int)) (by decide) rfl ?_
  intro p e s m args below meth c s₁ B hml hv
  obtain ⟨hargs, hsz, hP, hE1, hE2, hE3⟩ := hv
  subst hsz
  have hE : envZ Z s := ⟨hE1, hE2, hE3⟩
  have hx := B.exec
  have hb := B.bytes
  have hr := B.returns
  have hlocks := B.notSynchronized
  have hts := atoms_spec (ws := wsX5_news) B.pre
  have hown : s.vm.findClass RX5 = some m.cls := findClass_of_methodNamed B.named
  have hS : SZ Z s s.heap [] := va_S.rf
  obtain ⟨ls, hef, hl⟩ := z_entry m hargs (n := 3) (Nat.le_of_ble_eq_true rfl)
  rw [hef]
  have hl : lv_has ls 3 [(0, .ref (zq Z 0)), (1, .int x1), (2, .int x2)] := hl
  have in0 : ∀ w ∈ u_ws RX0 TX0 10, w ∈ wsX5_news := by decide +kernel
  have in5 : ∀ w ∈ u_ws RX5 TX5 15, w ∈ wsX5_news := by decide +kernel
  have lk103 := hts (.fieldLink RX5 103 "BeatDoubts$Arrivals" "newsCount" "I") (by decide +kernel)
  have lk106 := hts (.fieldLink RX5 106 "BeatDoubts$Arrivals" "beatOfNews" "[I") (by decide +kernel)
  have lk109 := hts (.fieldLink RX5 109 "BeatDoubts$Arrivals" "timeOfNews" "[I") (by decide +kernel)
  have lk40 := hts (.fieldLink RX5 40 "BeatDoubts" "arrivals" "LBeatDoubts$Arrivals;") (by decide +kernel)
  unfold wp_X5_news at h
  refine lv_aload_n hx hb dX5_news_0 rfl (lv_at hl 0 rfl) ?_
  refine zc_VV (As := []) (rest := []) ⟨hx, hb, hml, hown, hts⟩ (cwV 0 hts gX5_news_X5_followArrivals rfl rfl rfl hd_X5_followArrivals ⟨Nat.le_of_ble_eq_true rfl, Nat.le_of_ble_eq_true rfl⟩) (mt_X5_followArrivals l hZ σ _  _ h) (rc_5 hZ hE hP kd0) hE hP hS rfl hl.1 rfl (Nat.le_of_ble_eq_true rfl) dX5_news_1 ⟨Nat.zero_le _, Nat.zero_le _⟩ (fun σ1 H locs h hP hS => ?_)
  refine lv_iload_n hx hb dX5_news_4 rfl (lv_at hl 1 rfl) ?_
  refine lv_i2l hx hb dX5_news_5 rfl ?_
  refine lv_iconst (v := 0) hx hb dX5_news_6 (by decide) ?_
  refine lv_aload_n hx hb dX5_news_7 rfl (lv_at hl 0 rfl) ?_
  refine fg_5_9 hZ hx hb hts in5 hown hE hP kd0 lk40 dX5_news_8 ?_
  refine fg_0_7 hZ hx hb hts in0 hown hE hP kr_5_9 lk103 dX5_news_11 ?_
  refine lv_iconst (v := 1) hx hb dX5_news_14 (by decide) ?_
  refine lv_isub hx hb dX5_news_15 ?_
  refine zc_SI (As := [.long x1.toInt64, .int 0, .int ((gI σ1 5 7) - 1)]) (rest := []) ⟨hx, hb, hml, hown, hts⟩ (va_cwS 3 hts gX5_news_X5_isWithin rfl rfl rfl hd_X5_isWithin ⟨Nat.le_of_ble_eq_true rfl, Nat.le_of_ble_eq_true rfl⟩) (mt_X5_isWithin l hZ σ1 _ x1.toInt64 0 ((gI σ1 5 7) - 1) _ h) hE hP hS rfl hl.1 rfl (Nat.le_of_ble_eq_true rfl) dX5_news_16 ⟨Nat.zero_le _, Nat.zero_le _⟩ (fun r16 σ16 H locs h hP hS => ?_)
  refine lv_if_eq (tgt := 32) hx hb dX5_news_19 (by decide) (fun hc => ?_) (fun hc => ?_)
  · have h := h.1 hc
    refine lv_bipush (v := (-2)) hx hb dX5_news_32 (by decide) ?_
    exact zr_I hx hb hr hlocks hP hS h dX5_news_34
  · have h := h.2 hc
    refine lv_iload_n hx hb dX5_news_22 rfl (lv_at hl 2 rfl) ?_
    refine lv_i2l hx hb dX5_news_23 rfl ?_
    refine lv_iconst (v := 0) hx hb dX5_news_24 (by decide) ?_
    refine lv_iconst (v := 2) hx hb dX5_news_25 (by decide) ?_
    refine zc_SI (As := [.long x2.toInt64, .int 0, .int 2]) (rest := []) ⟨hx, hb, hml, hown, hts⟩ (va_cwS 3 hts gX5_news_X5_isWithin rfl rfl rfl hd_X5_isWithin ⟨Nat.le_of_ble_eq_true rfl, Nat.le_of_ble_eq_true rfl⟩) (mt_X5_isWithin l hZ σ16 _ x2.toInt64 0 2 _ h) hE hP hS rfl hl.1 rfl (Nat.le_of_ble_eq_true rfl) dX5_news_26 ⟨Nat.zero_le _, Nat.zero_le _⟩ (fun r26 σ26 H locs h hP hS => ?_)
    refine lv_if_ne (tgt := 35) hx hb dX5_news_29 (by decide) (fun hc => ?_) (fun hc => ?_)
    · have h := h.1 hc
      refine lv_iload_n hx hb dX5_news_35 rfl (lv_at hl 2 rfl) ?_
      by_cases hc0 : x2 = 0
      · have h := h.1 hc0
        refine lv_lookup (tgt := 64) hx hb dX5_news_36 (by decide) (by rw [hc0] <;> rfl) (by decide) ?_
        refine lv_aload_n hx hb dX5_news_64 rfl (lv_at hl 0 rfl) ?_
        refine fg_5_9 hZ hx hb hts in5 hown hE hP kd0 lk40 dX5_news_65 ?_
        refine fg_0_2 hZ hx hb hts in0 hown hE hP kr_5_9 lk106 dX5_news_68 ?_
        refine lv_iload_n hx hb dX5_news_71 rfl (lv_at hl 1 rfl) ?_
        obtain ⟨hin, h⟩ := h
        refine al_10 hZ hx hb hE hP (kr_0_2 kr_5_9) hin dX5_news_72 ?_
        exact zr_I hx hb hr hlocks hP hS h dX5_news_73
      by_cases hc1 : x2 = 1
      · have h := h.2.1 hc1
        refine lv_lookup (tgt := 74) hx hb dX5_news_36 (by decide) (by rw [hc1] <;> rfl) (by decide) ?_
        refine lv_aload_n hx hb dX5_news_74 rfl (lv_at hl 0 rfl) ?_
        refine fg_5_9 hZ hx hb hts in5 hown hE hP kd0 lk40 dX5_news_75 ?_
        refine fg_0_3 hZ hx hb hts in0 hown hE hP kr_5_9 lk109 dX5_news_78 ?_
        refine lv_iload_n hx hb dX5_news_81 rfl (lv_at hl 1 rfl) ?_
        obtain ⟨hin, h⟩ := h
        refine al_10 hZ hx hb hE hP (kr_0_3 kr_5_9) hin dX5_news_82 ?_
        exact zr_I hx hb hr hlocks hP hS h dX5_news_83
      have h := h.2.2 hc0 hc1
      refine lv_lookup (tgt := 84) hx hb dX5_news_36 (by decide) (lsw_out2 hc0 hc1) (by decide) ?_
      refine lv_aload_n hx hb dX5_news_84 rfl (lv_at hl 0 rfl) ?_
      refine fg_5_9 hZ hx hb hts in5 hown hE hP kd0 lk40 dX5_news_85 ?_
      refine lv_iload_n hx hb dX5_news_88 rfl (lv_at hl 1 rfl) ?_
      refine zc_VI (As := [.int x1]) (rest := []) ⟨hx, hb, hml, hown, hts⟩ (cwV 1 hts gX5_news_X0_gapCountBy rfl rfl rfl hd_X0_gapCountBy ⟨Nat.le_of_ble_eq_true rfl, Nat.le_of_ble_eq_true rfl⟩) (mt_X0_gapCountBy l hZ σ26 _ kr_5_9 x1 _ h) (rc_0 hZ hE hP kr_5_9) hE hP hS rfl hl.1 rfl (Nat.le_of_ble_eq_true rfl) dX5_news_89 ⟨Nat.zero_le _, Nat.zero_le _⟩ (fun r89 σ89 H locs h hP hS => ?_)
      exact zr_I hx hb hr hlocks hP hS h dX5_news_92
    · have h := h.2 hc
      refine lv_bipush (v := (-2)) hx hb dX5_news_32 (by decide) ?_
      exact zr_I hx hb hr hlocks hP hS h dX5_news_34
theorem hd_X5_asLong : yX5_asLong.cls ≠ "java/lang/invoke/MethodHandle" ∧ yX5_asLong.cls ≠ "java/lang/invoke/VarHandle" ∧ (parseMethodDescriptor yX5_asLong.desc).map (fun d => d.parameters.length) = some 1 := by decide +kernel
set_option maxHeartbeats 4000000 in
set_option maxRecDepth 100000 in
theorem mt_X5_asLong (l : Launch) {Z : ZW} (hZ : isC Z) (σ : SS) (sz : Nat) (x0 : Int32) (K : SS → Int64 → Prop) (h : wp_X5_asLong σ x0 K) : mtZ l yX5_asLong wsX5_asLong (rm9 0 0) Z [.int x0] σ sz (qcL Z K sz) := by
  refine Met.ofW (cc := cX5_asLong) (maxL := 1) (ret := (some .long)) (by decide) rfl ?_
  intro p e s m args below meth c s₁ B hml hv
  obtain ⟨hargs, hsz, hP, hE1, hE2, hE3⟩ := hv
  subst hsz
  have hE : envZ Z s := ⟨hE1, hE2, hE3⟩
  have hx := B.exec
  have hb := B.bytes
  have hr := B.returns
  have hlocks := B.notSynchronized
  have hts := atoms_spec (ws := wsX5_asLong) B.pre
  have hown : s.vm.findClass RX5 = some m.cls := findClass_of_methodNamed B.named
  have hS : SZ Z s s.heap [] := va_S.rf
  obtain ⟨ls, hef, hl⟩ := z_entry m hargs (n := 1) (Nat.le_of_ble_eq_true rfl)
  rw [hef]
  have hl : lv_has ls 1 [(0, .int x0)] := hl
  have lk320 := hts (.constantLong RX5 320 (-9223372036854775808)) (by decide +kernel)
  unfold wp_X5_asLong at h
  refine lv_ldc2 (v := (-9223372036854775808)) hx hb hown lk320 dX5_asLong_0 ?_
  refine lv_iload_n hx hb dX5_asLong_3 rfl (lv_at hl 0 rfl) ?_
  refine lv_i2l hx hb dX5_asLong_4 rfl ?_
  refine lv_lsub hx hb dX5_asLong_5 ?_
  exact zr_L hx hb hr hlocks hP hS h dX5_asLong_6
theorem hd_X5_greatestDivisor : yX5_greatestDivisor.cls ≠ "java/lang/invoke/MethodHandle" ∧ yX5_greatestDivisor.cls ≠ "java/lang/invoke/VarHandle" ∧ (parseMethodDescriptor yX5_greatestDivisor.desc).map (fun d => d.parameters.length) = some 2 := by decide +kernel
set_option maxHeartbeats 4000000 in
set_option maxRecDepth 100000 in
theorem mt_X5_greatestDivisor (l : Launch) {Z : ZW} (hZ : isC Z) (σ : SS) (sz : Nat) (x0 : Int32) (x1 : Int32) (K : SS → Int32 → Prop) (h : wp_X5_greatestDivisor σ x0 x1 K) : mtZ l yX5_greatestDivisor wsX5_greatestDivisor (rm9 0 0) Z [.int x0, .int x1] σ sz (qcI Z K sz) := by
  refine Met.ofW (cc := cX5_greatestDivisor) (maxL := 6) (ret := (some .int)) (by decide) rfl ?_
  intro p e s m args below meth c s₁ B hml hv
  obtain ⟨hargs, hsz, hP, hE1, hE2, hE3⟩ := hv
  subst hsz
  have hE : envZ Z s := ⟨hE1, hE2, hE3⟩
  have hx := B.exec
  have hb := B.bytes
  have hr := B.returns
  have hlocks := B.notSynchronized
  have hts := atoms_spec (ws := wsX5_greatestDivisor) B.pre
  have hown : s.vm.findClass RX5 = some m.cls := findClass_of_methodNamed B.named
  have hS : SZ Z s s.heap [] := va_S.rf
  obtain ⟨ls, hef, hl⟩ := z_entry m hargs (n := 6) (Nat.le_of_ble_eq_true rfl)
  rw [hef]
  have hl : lv_has ls 6 [(0, .int x0), (1, .int x1)] := hl
  have B7 : ∀ (n : Nat) (σ : SS) (x2 : Int32) (x3 : Int32) (x4 : Int32) (H : Heap) (locs : List Loc) (ls : Array Slot), fx4 (lb_X5_greatestDivisor_7 K) n σ x2 x3 x4 → PZ Z σ H → SZ Z s H locs → lv_has ls 6 [(2, .int x2), (3, .int x3), (4, .int x4)] → W p l e (headSpec wsX5_greatestDivisor (rm9 0 0)).room s m args below meth c H locs 0 0 (MQ below (qcI Z K s.heap.size) args s 0 0 (aZ Z s.heap.size)) (F0 m 7 ls []) := by
    intro n7
    induction n7 with
    | zero => intro σ x2 x3 x4 H locs ls h; exact h.elim
    | succ n7 ih7 =>
      intro σ x2 x3 x4 H locs ls h hP hS hl
      have h : lb_X5_greatestDivisor_7 K (fx4 (lb_X5_greatestDivisor_7 K) n7) σ x2 x3 x4 := h
      unfold lb_X5_greatestDivisor_7 at h
      refine lv_iload hx hb dX5_greatestDivisor_7 (lv_at hl 2 rfl) ?_
      refine lv_bipush (v := 64) hx hb dX5_greatestDivisor_9 (by decide) ?_
      refine lv_icmp_ge (tgt := 34) hx hb dX5_greatestDivisor_11 (by decide) (fun hc => ?_) (fun hc => ?_)
      · have h := h.1 hc
        refine lv_iload_n hx hb dX5_greatestDivisor_34 rfl (lv_at hl 0 rfl) ?_
        exact zr_I hx hb hr hlocks hP hS h dX5_greatestDivisor_35
      · have h := h.2 hc
        refine lv_iload_n hx hb dX5_greatestDivisor_14 rfl (lv_at hl 1 rfl) ?_
        refine lv_if_eq (tgt := 34) hx hb dX5_greatestDivisor_15 (by decide) (fun hc => ?_) (fun hc => ?_)
        · have h := h.1 hc
          refine lv_iload_n hx hb dX5_greatestDivisor_34 rfl (lv_at hl 0 rfl) ?_
          exact zr_I hx hb hr hlocks hP hS h dX5_greatestDivisor_35
        · have h := h.2 hc
          refine lv_iload_n hx hb dX5_greatestDivisor_18 rfl (lv_at hl 0 rfl) ?_
          refine lv_iload_n hx hb dX5_greatestDivisor_19 rfl (lv_at hl 1 rfl) ?_
          obtain ⟨hne, h⟩ := h
          refine lv_irem hx hb dX5_greatestDivisor_20 hne ?_
          refine lv_istore (lv' := [(5, .int (x2 - x2 / x3 * x3)), (2, .int x2), (3, .int x3), (4, .int x4)]) hx hb dX5_greatestDivisor_21 hl (by decide) rfl (fun ls hl => ?_)
          refine lv_iload_n hx hb dX5_greatestDivisor_23 rfl (lv_at hl 2 rfl) ?_
          refine lv_istore_n (lv' := [(2, .int x3), (5, .int (x2 - x2 / x3 * x3)), (3, .int x3), (4, .int x4)]) hx hb dX5_greatestDivisor_24 rfl hl (by decide) rfl (fun ls hl => ?_)
          refine lv_iload hx hb dX5_greatestDivisor_25 (lv_at hl 1 rfl) ?_
          refine lv_istore_n (lv' := [(3, .int (x2 - x2 / x3 * x3)), (2, .int x3), (5, .int (x2 - x2 / x3 * x3)), (4, .int x4)]) hx hb dX5_greatestDivisor_27 rfl hl (by decide) rfl (fun ls hl => ?_)
          refine lv_iinc (v := (x4 + 1)) (lv' := [(4, .int (x4 + 1)), (3, .int (x2 - x2 / x3 * x3)), (2, .int x3), (5, .int (x2 - x2 / x3 * x3))]) hx hb dX5_greatestDivisor_28 hl (k := 3) rfl rfl (by decide) rfl (fun ls hl => ?_)
          refine lv_goto (tgt := 7) hx hb dX5_greatestDivisor_31 (by decide) ?_
          exact ih7 σ x3 (x2 - x2 / x3 * x3) (x4 + 1) _ _ _ h hP hS (lv_sub hl [2, 1, 0] rfl)
  unfold wp_X5_greatestDivisor at h
  refine lv_iload_n hx hb dX5_greatestDivisor_0 rfl (lv_at hl 0 rfl) ?_
  refine lv_istore_n (lv' := [(2, .int x0), (0, .int x0), (1, .int x1)]) hx hb dX5_greatestDivisor_1 rfl hl (by decide) rfl (fun ls hl => ?_)
  refine lv_iload_n hx hb dX5_greatestDivisor_2 rfl (lv_at hl 2 rfl) ?_
  refine lv_istore_n (lv' := [(3, .int x1), (2, .int x0), (0, .int x0), (1, .int x1)]) hx hb dX5_greatestDivisor_3 rfl hl (by decide) rfl (fun ls hl => ?_)
  refine lv_iconst (v := 0) hx hb dX5_greatestDivisor_4 (by decide) ?_
  refine lv_istore (lv' := [(4, .int 0), (3, .int x1), (2, .int x0), (0, .int x0), (1, .int x1)]) hx hb dX5_greatestDivisor_5 hl (by decide) rfl (fun ls hl => ?_)
  obtain ⟨n, h⟩ := h
  exact B7 n σ x0 x1 0 _ _ _ h hP hS (lv_sub hl [2, 1, 0] rfl)
theorem hd_X5_inLowestTerms : yX5_inLowestTerms.cls ≠ "java/lang/invoke/MethodHandle" ∧ yX5_inLowestTerms.cls ≠ "java/lang/invoke/VarHandle" ∧ (parseMethodDescriptor yX5_inLowestTerms.desc).map (fun d => d.parameters.length) = some 3 := by decide +kernel
set_option maxHeartbeats 4000000 in
set_option maxRecDepth 100000 in
theorem mt_X5_inLowestTerms (l : Launch) {Z : ZW} (hZ : isC Z) (σ : SS) (sz : Nat) (x0 : Int32) (x1 : Int32) (x2 : Int32) (K : SS → Int64 → Prop) (h : wp_X5_inLowestTerms σ x0 x1 x2 K) : mtZ l yX5_inLowestTerms wsX5_inLowestTerms (rm9 1 25) Z [.int x0, .int x1, .int x2] σ sz (qcL Z K sz) := by
  refine Met.ofW (cc := cX5_inLowestTerms) (maxL := 5) (ret := (some .long)) (by decide) rfl ?_
  intro p e s m args below meth c s₁ B hml hv
  obtain ⟨hargs, hsz, hP, hE1, hE2, hE3⟩ := hv
  subst hsz
  have hE : envZ Z s := ⟨hE1, hE2, hE3⟩
  have hx := B.exec
  have hb := B.bytes
  have hr := B.returns
  have hlocks := B.notSynchronized
  have hts := atoms_spec (ws := wsX5_inLowestTerms) B.pre
  have hown : s.vm.findClass RX5 = some m.cls := findClass_of_methodNamed B.named
  have hS : SZ Z s s.heap [] := va_S.rf
  obtain ⟨ls, hef, hl⟩ := z_entry m hargs (n := 5) (Nat.le_of_ble_eq_true rfl)
  rw [hef]
  have hl : lv_has ls 5 [(0, .int x0), (1, .int x1), (2, .int x2)] := hl
  have B15 : ∀ (σ : SS) (x3 : Int32) (k0 : Int32) (H : Heap) (locs : List Loc) (ls : Array Slot), bl_X5_inLowestTerms_15 K σ x3 k0 → PZ Z σ H → SZ Z s H locs → lv_has ls 5 [(3, .int x3)] → W p l e (headSpec wsX5_inLowestTerms (rm9 1 25)).room s m args below meth c H locs 0 0 (MQ below (qcL Z K s.heap.size) args s 0 0 (aZ Z s.heap.size)) (F0 m 15 ls [.int k0]) := by
    intro σ x3 k0 H locs ls h hP hS hl
    unfold bl_X5_inLowestTerms_15 at h
    refine lv_istore (lv' := [(4, .int k0), (3, .int x3)]) hx hb dX5_inLowestTerms_15 hl (by decide) rfl (fun ls hl => ?_)
    refine lv_iload_n hx hb dX5_inLowestTerms_17 rfl (lv_at hl 1 rfl) ?_
    refine lv_if_ne (tgt := 27) hx hb dX5_inLowestTerms_18 (by decide) (fun hc => ?_) (fun hc => ?_)
    · have h := h.1 hc
      refine lv_iload hx hb dX5_inLowestTerms_27 (lv_at hl 0 rfl) ?_
      refine lv_iload_n hx hb dX5_inLowestTerms_29 rfl (lv_at hl 1 rfl) ?_
      obtain ⟨hne, h⟩ := h
      refine lv_idiv hx hb dX5_inLowestTerms_30 hne ?_
      refine lv_i2l hx hb dX5_inLowestTerms_31 rfl ?_
      exact zr_L hx hb hr hlocks hP hS h dX5_inLowestTerms_32
    · have h := h.2 hc
      refine lv_iload hx hb dX5_inLowestTerms_21 (lv_at hl 0 rfl) ?_
      refine lv_i2l hx hb dX5_inLowestTerms_23 rfl ?_
      refine lv_goto (tgt := 32) hx hb dX5_inLowestTerms_24 (by decide) ?_
      exact zr_L hx hb hr hlocks hP hS h dX5_inLowestTerms_32
  unfold wp_X5_inLowestTerms at h
  refine lv_iload_n hx hb dX5_inLowestTerms_0 rfl (lv_at hl 0 rfl) ?_
  refine lv_iload_n hx hb dX5_inLowestTerms_1 rfl (lv_at hl 1 rfl) ?_
  refine zc_SI (As := [.int x0, .int x1]) (rest := []) ⟨hx, hb, hml, hown, hts⟩ (va_cwS 2 hts gX5_inLowestTerms_X5_greatestDivisor rfl rfl rfl hd_X5_greatestDivisor ⟨Nat.le_of_ble_eq_true rfl, Nat.le_of_ble_eq_true rfl⟩) (mt_X5_greatestDivisor l hZ σ _ x0 x1 _ h) hE hP hS rfl hl.1 rfl (Nat.le_of_ble_eq_true rfl) dX5_inLowestTerms_2 ⟨Nat.zero_le _, Nat.zero_le _⟩ (fun r2 σ2 H locs h hP hS => ?_)
  refine lv_istore_n (lv' := [(3, .int r2), (0, .int x0), (1, .int x1), (2, .int x2)]) hx hb dX5_inLowestTerms_5 rfl hl (by decide) rfl (fun ls hl => ?_)
  refine lv_iload_n hx hb dX5_inLowestTerms_6 rfl (lv_at hl 3 rfl) ?_
  refine lv_if_ne (tgt := 14) hx hb dX5_inLowestTerms_7 (by decide) (fun hc => ?_) (fun hc => ?_)
  · have h := h.1 hc
    refine lv_iload_n hx hb dX5_inLowestTerms_14 rfl (lv_at hl 2 rfl) ?_
    exact B15 σ2 r2 x1 _ _ _ h hP hS (lv_sub hl [0] rfl)
  · have h := h.2 hc
    refine lv_iload_n hx hb dX5_inLowestTerms_10 rfl (lv_at hl 1 rfl) ?_
    refine lv_goto (tgt := 15) hx hb dX5_inLowestTerms_11 (by decide) ?_
    exact B15 σ2 r2 x0 _ _ _ h hP hS (lv_sub hl [0] rfl)
theorem hd_X5_expected : yX5_expected.cls = RX5 ∧ yX5_expected.cls ≠ "java/lang/invoke/MethodHandle" ∧ yX5_expected.cls ≠ "java/lang/invoke/VarHandle" ∧ (parseMethodDescriptor yX5_expected.desc).map (fun d => d.parameters.length) = some 2 := by decide +kernel
set_option maxHeartbeats 4000000 in
set_option maxRecDepth 100000 in
theorem mt_X5_expected (l : Launch) {Z : ZW} (hZ : isC Z) (σ : SS) (sz : Nat) (x1 : Int32) (x2 : Int32) (K : SS → Int64 → Prop) (h : wp_X5_expected σ x1 x2 K) : mtZ l yX5_expected wsX5_expected (rm9 4 98) Z [.ref (zq Z 0), .int x1, .int x2] σ sz (qcL Z K sz) := by
  refine Met.ofW (cc := cX5_expected) (maxL := 3) (ret := (some .long)) (by decide) rfl ?_
  intro p e s m args below meth c s₁ B hml hv
  obtain ⟨hargs, hsz, hP, hE1, hE2, hE3⟩ := hv
  subst hsz
  have hE : envZ Z s := ⟨hE1, hE2, hE3⟩
  have hx := B.exec
  have hb := B.bytes
  have hr := B.returns
  have hlocks := B.notSynchronized
  have hts := atoms_spec (ws := wsX5_expected) B.pre
  have hown : s.vm.findClass RX5 = some m.cls := findClass_of_methodNamed B.named
  have hS : SZ Z s s.heap [] := va_S.rf
  obtain ⟨ls, hef, hl⟩ := z_entry m hargs (n := 3) (Nat.le_of_ble_eq_true rfl)
  rw [hef]
  have hl : lv_has ls 3 [(0, .ref (zq Z 0)), (1, .int x1), (2, .int x2)] := hl
  have in0 : ∀ w ∈ u_ws RX0 TX0 10, w ∈ wsX5_expected := by decide +kernel
  have in5 : ∀ w ∈ u_ws RX5 TX5 15, w ∈ wsX5_expected := by decide +kernel
  have lk103 := hts (.fieldLink RX5 103 "BeatDoubts$Arrivals" "newsCount" "I") (by decide +kernel)
  have lk120 := hts (.fieldLink RX5 120 "BeatDoubts$Arrivals" "aboveBy" "[I") (by decide +kernel)
  have lk123 := hts (.fieldLink RX5 123 "BeatDoubts$Arrivals" "belowBy" "[I") (by decide +kernel)
  have lk40 := hts (.fieldLink RX5 40 "BeatDoubts" "arrivals" "LBeatDoubts$Arrivals;") (by decide +kernel)
  unfold wp_X5_expected at h
  refine lv_aload_n hx hb dX5_expected_0 rfl (lv_at hl 0 rfl) ?_
  refine zc_VV (As := []) (rest := []) ⟨hx, hb, hml, hown, hts⟩ (cwV 0 hts gX5_expected_X5_followArrivals rfl rfl rfl hd_X5_followArrivals ⟨Nat.le_of_ble_eq_true rfl, Nat.le_of_ble_eq_true rfl⟩) (mt_X5_followArrivals l hZ σ _  _ h) (rc_5 hZ hE hP kd0) hE hP hS rfl hl.1 rfl (Nat.le_of_ble_eq_true rfl) dX5_expected_1 ⟨Nat.zero_le _, Nat.zero_le _⟩ (fun σ1 H locs h hP hS => ?_)
  refine lv_iload_n hx hb dX5_expected_4 rfl (lv_at hl 1 rfl) ?_
  refine lv_i2l hx hb dX5_expected_5 rfl ?_
  refine lv_iconst (v := 0) hx hb dX5_expected_6 (by decide) ?_
  refine lv_aload_n hx hb dX5_expected_7 rfl (lv_at hl 0 rfl) ?_
  refine fg_5_9 hZ hx hb hts in5 hown hE hP kd0 lk40 dX5_expected_8 ?_
  refine fg_0_7 hZ hx hb hts in0 hown hE hP kr_5_9 lk103 dX5_expected_11 ?_
  refine lv_iconst (v := 1) hx hb dX5_expected_14 (by decide) ?_
  refine lv_isub hx hb dX5_expected_15 ?_
  refine zc_SI (As := [.long x1.toInt64, .int 0, .int ((gI σ1 5 7) - 1)]) (rest := []) ⟨hx, hb, hml, hown, hts⟩ (va_cwS 3 hts gX5_expected_X5_isWithin rfl rfl rfl hd_X5_isWithin ⟨Nat.le_of_ble_eq_true rfl, Nat.le_of_ble_eq_true rfl⟩) (mt_X5_isWithin l hZ σ1 _ x1.toInt64 0 ((gI σ1 5 7) - 1) _ h) hE hP hS rfl hl.1 rfl (Nat.le_of_ble_eq_true rfl) dX5_expected_16 ⟨Nat.zero_le _, Nat.zero_le _⟩ (fun r16 σ16 H locs h hP hS => ?_)
  refine lv_if_eq (tgt := 32) hx hb dX5_expected_19 (by decide) (fun hc => ?_) (fun hc => ?_)
  · have h := h.1 hc
    refine lv_bipush (v := (-2)) hx hb dX5_expected_32 (by decide) ?_
    refine zc_SL (As := [.int (-2)]) (rest := []) ⟨hx, hb, hml, hown, hts⟩ (va_cwS 1 hts gX5_expected_X5_asLong rfl rfl rfl hd_X5_asLong ⟨Nat.le_of_ble_eq_true rfl, Nat.le_of_ble_eq_true rfl⟩) (mt_X5_asLong l hZ σ16 _ (-2) _ h) hE hP hS rfl hl.1 rfl (Nat.le_of_ble_eq_true rfl) dX5_expected_34 ⟨Nat.zero_le _, Nat.zero_le _⟩ (fun r34 σ34 H locs h hP hS => ?_)
    exact zr_L hx hb hr hlocks hP hS h dX5_expected_37
  · have h := h.2 hc
    refine lv_iload_n hx hb dX5_expected_22 rfl (lv_at hl 2 rfl) ?_
    refine lv_i2l hx hb dX5_expected_23 rfl ?_
    refine lv_iconst (v := 0) hx hb dX5_expected_24 (by decide) ?_
    refine lv_iconst (v := 1) hx hb dX5_expected_25 (by decide) ?_
    refine zc_SI (As := [.long x2.toInt64, .int 0, .int 1]) (rest := []) ⟨hx, hb, hml, hown, hts⟩ (va_cwS 3 hts gX5_expected_X5_isWithin rfl rfl rfl hd_X5_isWithin ⟨Nat.le_of_ble_eq_true rfl, Nat.le_of_ble_eq_true rfl⟩) (mt_X5_isWithin l hZ σ16 _ x2.toInt64 0 1 _ h) hE hP hS rfl hl.1 rfl (Nat.le_of_ble_eq_true rfl) dX5_expected_26 ⟨Nat.zero_le _, Nat.zero_le _⟩ (fun r26 σ26 H locs h hP hS => ?_)
    refine lv_if_ne (tgt := 38) hx hb dX5_expected_29 (by decide) (fun hc => ?_) (fun hc => ?_)
    · have h := h.1 hc
      refine lv_aload_n hx hb dX5_expected_38 rfl (lv_at hl 0 rfl) ?_
      refine fg_5_9 hZ hx hb hts in5 hown hE hP kd0 lk40 dX5_expected_39 ?_
      refine fg_0_4 hZ hx hb hts in0 hown hE hP kr_5_9 lk120 dX5_expected_42 ?_
      refine lv_iload_n hx hb dX5_expected_45 rfl (lv_at hl 1 rfl) ?_
      obtain ⟨hin, h⟩ := h
      refine al_10 hZ hx hb hE hP (kr_0_4 kr_5_9) hin dX5_expected_46 ?_
      refine lv_aload_n hx hb dX5_expected_47 rfl (lv_at hl 0 rfl) ?_
      refine fg_5_9 hZ hx hb hts in5 hown hE hP kd0 lk40 dX5_expected_48 ?_
      refine fg_0_5 hZ hx hb hts in0 hown hE hP kr_5_9 lk123 dX5_expected_51 ?_
      refine lv_iload_n hx hb dX5_expected_54 rfl (lv_at hl 1 rfl) ?_
      obtain ⟨hin, h⟩ := h
      refine al_10 hZ hx hb hE hP (kr_0_5 kr_5_9) hin dX5_expected_55 ?_
      refine lv_iload_n hx hb dX5_expected_56 rfl (lv_at hl 2 rfl) ?_
      refine zc_SL (As := [.int (gA σ26 (5 + 5) x1.toNatClampNeg), .int (gA σ26 (5 + 6) x1.toNatClampNeg), .int x2]) (rest := []) ⟨hx, hb, hml, hown, hts⟩ (va_cwS 3 hts gX5_expected_X5_inLowestTerms rfl rfl rfl hd_X5_inLowestTerms ⟨Nat.le_of_ble_eq_true rfl, Nat.le_of_ble_eq_true rfl⟩) (mt_X5_inLowestTerms l hZ σ26 _ (gA σ26 (5 + 5) x1.toNatClampNeg) (gA σ26 (5 + 6) x1.toNatClampNeg) x2 _ h) hE hP hS rfl hl.1 rfl (Nat.le_of_ble_eq_true rfl) dX5_expected_57 ⟨Nat.zero_le _, Nat.zero_le _⟩ (fun r57 σ57 H locs h hP hS => ?_)
      exact zr_L hx hb hr hlocks hP hS h dX5_expected_60
    · have h := h.2 hc
      refine lv_bipush (v := (-2)) hx hb dX5_expected_32 (by decide) ?_
      refine zc_SL (As := [.int (-2)]) (rest := []) ⟨hx, hb, hml, hown, hts⟩ (va_cwS 1 hts gX5_expected_X5_asLong rfl rfl rfl hd_X5_asLong ⟨Nat.le_of_ble_eq_true rfl, Nat.le_of_ble_eq_true rfl⟩) (mt_X5_asLong l hZ σ26 _ (-2) _ h) hE hP hS rfl hl.1 rfl (Nat.le_of_ble_eq_true rfl) dX5_expected_34 ⟨Nat.zero_le _, Nat.zero_le _⟩ (fun r34 σ34 H locs h hP hS => ?_)
      exact zr_L hx hb hr hlocks hP hS h dX5_expected_37
theorem hd_X5_score : yX5_score.cls = RX5 ∧ yX5_score.cls ≠ "java/lang/invoke/MethodHandle" ∧ yX5_score.cls ≠ "java/lang/invoke/VarHandle" ∧ (parseMethodDescriptor yX5_score.desc).map (fun d => d.parameters.length) = some 2 := by decide +kernel
set_option maxHeartbeats 4000000 in
set_option maxRecDepth 100000 in
theorem mt_X5_score (l : Launch) {Z : ZW} (hZ : isC Z) (σ : SS) (sz : Nat) (x1 : Int32) (x2 : Int32) (K : SS → Int64 → Prop) (h : wp_X5_score σ x1 x2 K) : mtZ l yX5_score wsX5_score (rm9 4 98) Z [.ref (zq Z 0), .int x1, .int x2] σ sz (qcL Z K sz) := by
  refine Met.ofW (cc := cX5_score) (maxL := 5) (ret := (some .long)) (by decide) rfl ?_
  intro p e s m args below meth c s₁ B hml hv
  obtain ⟨hargs, hsz, hP, hE1, hE2, hE3⟩ := hv
  subst hsz
  have hE : envZ Z s := ⟨hE1, hE2, hE3⟩
  have hx := B.exec
  have hb := B.bytes
  have hr := B.returns
  have hlocks := B.notSynchronized
  have hts := atoms_spec (ws := wsX5_score) B.pre
  have hown : s.vm.findClass RX5 = some m.cls := findClass_of_methodNamed B.named
  have hS : SZ Z s s.heap [] := va_S.rf
  obtain ⟨ls, hef, hl⟩ := z_entry m hargs (n := 5) (Nat.le_of_ble_eq_true rfl)
  rw [hef]
  have hl : lv_has ls 5 [(0, .ref (zq Z 0)), (1, .int x1), (2, .int x2)] := hl
  have in0 : ∀ w ∈ u_ws RX0 TX0 10, w ∈ wsX5_score := by decide +kernel
  have in5 : ∀ w ∈ u_ws RX5 TX5 15, w ∈ wsX5_score := by decide +kernel
  have lk109 := hts (.fieldLink RX5 109 "BeatDoubts$Arrivals" "timeOfNews" "[I") (by decide +kernel)
  have lk40 := hts (.fieldLink RX5 40 "BeatDoubts" "arrivals" "LBeatDoubts$Arrivals;") (by decide +kernel)
  unfold wp_X5_score at h
  refine lv_iload_n hx hb dX5_score_0 rfl (lv_at hl 1 rfl) ?_
  refine lv_i2l hx hb dX5_score_1 rfl ?_
  refine lv_iconst (v := 0) hx hb dX5_score_2 (by decide) ?_
  refine lv_sipush (v := 6000) hx hb dX5_score_3 (by decide) ?_
  refine zc_SI (As := [.long x1.toInt64, .int 0, .int 6000]) (rest := []) ⟨hx, hb, hml, hown, hts⟩ (va_cwS 3 hts gX5_score_X5_isWithin rfl rfl rfl hd_X5_isWithin ⟨Nat.le_of_ble_eq_true rfl, Nat.le_of_ble_eq_true rfl⟩) (mt_X5_isWithin l hZ σ _ x1.toInt64 0 6000 _ h) hE hP hS rfl hl.1 rfl (Nat.le_of_ble_eq_true rfl) dX5_score_6 ⟨Nat.zero_le _, Nat.zero_le _⟩ (fun r6 σ6 H locs h hP hS => ?_)
  refine lv_if_eq (tgt := 22) hx hb dX5_score_9 (by decide) (fun hc => ?_) (fun hc => ?_)
  · have h := h.1 hc
    refine lv_bipush (v := (-2)) hx hb dX5_score_22 (by decide) ?_
    refine zc_SL (As := [.int (-2)]) (rest := []) ⟨hx, hb, hml, hown, hts⟩ (va_cwS 1 hts gX5_score_X5_asLong rfl rfl rfl hd_X5_asLong ⟨Nat.le_of_ble_eq_true rfl, Nat.le_of_ble_eq_true rfl⟩) (mt_X5_asLong l hZ σ6 _ (-2) _ h) hE hP hS rfl hl.1 rfl (Nat.le_of_ble_eq_true rfl) dX5_score_24 ⟨Nat.zero_le _, Nat.zero_le _⟩ (fun r24 σ24 H locs h hP hS => ?_)
    exact zr_L hx hb hr hlocks hP hS h dX5_score_27
  · have h := h.2 hc
    refine lv_iload_n hx hb dX5_score_12 rfl (lv_at hl 2 rfl) ?_
    refine lv_i2l hx hb dX5_score_13 rfl ?_
    refine lv_iconst (v := 0) hx hb dX5_score_14 (by decide) ?_
    refine lv_iconst (v := 1) hx hb dX5_score_15 (by decide) ?_
    refine zc_SI (As := [.long x2.toInt64, .int 0, .int 1]) (rest := []) ⟨hx, hb, hml, hown, hts⟩ (va_cwS 3 hts gX5_score_X5_isWithin rfl rfl rfl hd_X5_isWithin ⟨Nat.le_of_ble_eq_true rfl, Nat.le_of_ble_eq_true rfl⟩) (mt_X5_isWithin l hZ σ6 _ x2.toInt64 0 1 _ h) hE hP hS rfl hl.1 rfl (Nat.le_of_ble_eq_true rfl) dX5_score_16 ⟨Nat.zero_le _, Nat.zero_le _⟩ (fun r16 σ16 H locs h hP hS => ?_)
    refine lv_if_ne (tgt := 28) hx hb dX5_score_19 (by decide) (fun hc => ?_) (fun hc => ?_)
    · have h := h.1 hc
      refine lv_aload_n hx hb dX5_score_28 rfl (lv_at hl 0 rfl) ?_
      refine zc_VV (As := []) (rest := []) ⟨hx, hb, hml, hown, hts⟩ (cwV 0 hts gX5_score_X5_followArrivals rfl rfl rfl hd_X5_followArrivals ⟨Nat.le_of_ble_eq_true rfl, Nat.le_of_ble_eq_true rfl⟩) (mt_X5_followArrivals l hZ σ16 _  _ h) (rc_5 hZ hE hP kd0) hE hP hS rfl hl.1 rfl (Nat.le_of_ble_eq_true rfl) dX5_score_29 ⟨Nat.zero_le _, Nat.zero_le _⟩ (fun σ29 H locs h hP hS => ?_)
      refine lv_aload_n hx hb dX5_score_32 rfl (lv_at hl 0 rfl) ?_
      refine fg_5_9 hZ hx hb hts in5 hown hE hP kd0 lk40 dX5_score_33 ?_
      refine lv_iload_n hx hb dX5_score_36 rfl (lv_at hl 1 rfl) ?_
      refine zc_VI (As := [.int x1]) (rest := []) ⟨hx, hb, hml, hown, hts⟩ (cwV 1 hts gX5_score_X0_latestAt rfl rfl rfl hd_X0_latestAt ⟨Nat.le_of_ble_eq_true rfl, Nat.le_of_ble_eq_true rfl⟩) (mt_X0_latestAt l hZ σ29 _ kr_5_9 x1 _ h) (rc_0 hZ hE hP kr_5_9) hE hP hS rfl hl.1 rfl (Nat.le_of_ble_eq_true rfl) dX5_score_37 ⟨Nat.zero_le _, Nat.zero_le _⟩ (fun r37 σ37 H locs h hP hS => ?_)
      refine lv_istore_n (lv' := [(3, .int r37), (0, .ref (zq Z 0)), (1, .int x1), (2, .int x2)]) hx hb dX5_score_40 rfl hl (by decide) rfl (fun ls hl => ?_)
      refine lv_iload_n hx hb dX5_score_41 rfl (lv_at hl 0 rfl) ?_
      refine lv_iconst (v := (-1)) hx hb dX5_score_42 (by decide) ?_
      refine lv_icmp_eq (tgt := 57) hx hb dX5_score_43 (by decide) (fun hc => ?_) (fun hc => ?_)
      · have h := h.1 hc
        refine lv_bipush (v := (-3)) hx hb dX5_score_57 (by decide) ?_
        refine zc_SL (As := [.int (-3)]) (rest := []) ⟨hx, hb, hml, hown, hts⟩ (va_cwS 1 hts gX5_score_X5_asLong rfl rfl rfl hd_X5_asLong ⟨Nat.le_of_ble_eq_true rfl, Nat.le_of_ble_eq_true rfl⟩) (mt_X5_asLong l hZ σ37 _ (-3) _ h) hE hP hS rfl hl.1 rfl (Nat.le_of_ble_eq_true rfl) dX5_score_59 ⟨Nat.zero_le _, Nat.zero_le _⟩ (fun r59 σ59 H locs h hP hS => ?_)
        exact zr_L hx hb hr hlocks hP hS h dX5_score_62
      · have h := h.2 hc
        refine lv_aload_n hx hb dX5_score_46 rfl (lv_at hl 1 rfl) ?_
        refine fg_5_9 hZ hx hb hts in5 hown hE hP kd0 lk40 dX5_score_47 ?_
        refine lv_iload_n hx hb dX5_score_50 rfl (lv_at hl 0 rfl) ?_
        refine zc_VI (As := [.int r37]) (rest := []) ⟨hx, hb, hml, hown, hts⟩ (cwV 1 hts gX5_score_X0_gapCountBy rfl rfl rfl hd_X0_gapCountBy ⟨Nat.le_of_ble_eq_true rfl, Nat.le_of_ble_eq_true rfl⟩) (mt_X0_gapCountBy l hZ σ37 _ kr_5_9 r37 _ h) (rc_0 hZ hE hP kr_5_9) hE hP hS rfl hl.1 rfl (Nat.le_of_ble_eq_true rfl) dX5_score_51 ⟨Nat.zero_le _, Nat.zero_le _⟩ (fun r51 σ51 H locs h hP hS => ?_)
        refine lv_if_ne (tgt := 63) hx hb dX5_score_54 (by decide) (fun hc => ?_) (fun hc => ?_)
        · have h := h.1 hc
          refine lv_aload_n hx hb dX5_score_63 rfl (lv_at hl 1 rfl) ?_
          refine fg_5_9 hZ hx hb hts in5 hown hE hP kd0 lk40 dX5_score_64 ?_
          refine lv_iload_n hx hb dX5_score_67 rfl (lv_at hl 0 rfl) ?_
          refine lv_iload_n hx hb dX5_score_68 rfl (lv_at hl 2 rfl) ?_
          refine lv_aload_n hx hb dX5_score_69 rfl (lv_at hl 1 rfl) ?_
          refine fg_5_9 hZ hx hb hts in5 hown hE hP kd0 lk40 dX5_score_70 ?_
          refine fg_0_3 hZ hx hb hts in0 hown hE hP kr_5_9 lk109 dX5_score_73 ?_
          refine lv_iload_n hx hb dX5_score_76 rfl (lv_at hl 0 rfl) ?_
          obtain ⟨hin, h⟩ := h
          refine al_10 hZ hx hb hE hP (kr_0_3 kr_5_9) hin dX5_score_77 ?_
          refine lv_isub hx hb dX5_score_78 ?_
          refine zc_VI (As := [.int r37, .int (x1 - (gA σ51 (5 + 4) r37.toNatClampNeg))]) (rest := []) ⟨hx, hb, hml, hown, hts⟩ (cwV 2 hts gX5_score_X0_countGapsBelow rfl rfl rfl hd_X0_countGapsBelow ⟨Nat.le_of_ble_eq_true rfl, Nat.le_of_ble_eq_true rfl⟩) (mt_X0_countGapsBelow l hZ σ51 _ kr_5_9 r37 (x1 - (gA σ51 (5 + 4) r37.toNatClampNeg)) _ h) (rc_0 hZ hE hP kr_5_9) hE hP hS rfl hl.1 rfl (Nat.le_of_ble_eq_true rfl) dX5_score_79 ⟨Nat.zero_le _, Nat.zero_le _⟩ (fun r79 σ79 H locs h hP hS => ?_)
          refine lv_istore (lv' := [(4, .int r79), (3, .int r37), (0, .ref (zq Z 0)), (1, .int x1), (2, .int x2)]) hx hb dX5_score_82 hl (by decide) rfl (fun ls hl => ?_)
          refine lv_iload hx hb dX5_score_84 (lv_at hl 0 rfl) ?_
          refine lv_aload_n hx hb dX5_score_86 rfl (lv_at hl 2 rfl) ?_
          refine fg_5_9 hZ hx hb hts in5 hown hE hP kd0 lk40 dX5_score_87 ?_
          refine lv_iload_n hx hb dX5_score_90 rfl (lv_at hl 1 rfl) ?_
          refine zc_VI (As := [.int r37]) (rest := [.int r79]) ⟨hx, hb, hml, hown, hts⟩ (cwV 1 hts gX5_score_X0_gapCountBy rfl rfl rfl hd_X0_gapCountBy ⟨Nat.le_of_ble_eq_true rfl, Nat.le_of_ble_eq_true rfl⟩) (mt_X0_gapCountBy l hZ σ79 _ kr_5_9 r37 _ h) (rc_0 hZ hE hP kr_5_9) hE hP hS rfl hl.1 rfl (Nat.le_of_ble_eq_true rfl) dX5_score_91 ⟨Nat.zero_le _, Nat.zero_le _⟩ (fun r91 σ91 H locs h hP hS => ?_)
          refine lv_iload_n hx hb dX5_score_94 rfl (lv_at hl 4 rfl) ?_
          refine zc_SL (As := [.int r79, .int r91, .int x2]) (rest := []) ⟨hx, hb, hml, hown, hts⟩ (va_cwS 3 hts gX5_score_X5_inLowestTerms rfl rfl rfl hd_X5_inLowestTerms ⟨Nat.le_of_ble_eq_true rfl, Nat.le_of_ble_eq_true rfl⟩) (mt_X5_inLowestTerms l hZ σ91 _ r79 r91 x2 _ h) hE hP hS rfl hl.1 rfl (Nat.le_of_ble_eq_true rfl) dX5_score_95 ⟨Nat.zero_le _, Nat.zero_le _⟩ (fun r95 σ95 H locs h hP hS => ?_)
          exact zr_L hx hb hr hlocks hP hS h dX5_score_98
        · have h := h.2 hc
          refine lv_bipush (v := (-3)) hx hb dX5_score_57 (by decide) ?_
          refine zc_SL (As := [.int (-3)]) (rest := []) ⟨hx, hb, hml, hown, hts⟩ (va_cwS 1 hts gX5_score_X5_asLong rfl rfl rfl hd_X5_asLong ⟨Nat.le_of_ble_eq_true rfl, Nat.le_of_ble_eq_true rfl⟩) (mt_X5_asLong l hZ σ51 _ (-3) _ h) hE hP hS rfl hl.1 rfl (Nat.le_of_ble_eq_true rfl) dX5_score_59 ⟨Nat.zero_le _, Nat.zero_le _⟩ (fun r59 σ59 H locs h hP hS => ?_)
          exact zr_L hx hb hr hlocks hP hS h dX5_score_62
    · have h := h.2 hc
      refine lv_bipush (v := (-2)) hx hb dX5_score_22 (by decide) ?_
      refine zc_SL (As := [.int (-2)]) (rest := []) ⟨hx, hb, hml, hown, hts⟩ (va_cwS 1 hts gX5_score_X5_asLong rfl rfl rfl hd_X5_asLong ⟨Nat.le_of_ble_eq_true rfl, Nat.le_of_ble_eq_true rfl⟩) (mt_X5_asLong l hZ σ16 _ (-2) _ h) hE hP hS rfl hl.1 rfl (Nat.le_of_ble_eq_true rfl) dX5_score_24 ⟨Nat.zero_le _, Nat.zero_le _⟩ (fun r24 σ24 H locs h hP hS => ?_)
      exact zr_L hx hb hr hlocks hP hS h dX5_score_27
theorem hd_X5_isMeasure : yX5_isMeasure.cls ≠ "java/lang/invoke/MethodHandle" ∧ yX5_isMeasure.cls ≠ "java/lang/invoke/VarHandle" ∧ (parseMethodDescriptor yX5_isMeasure.desc).map (fun d => d.parameters.length) = some 2 := by decide +kernel
set_option maxHeartbeats 4000000 in
set_option maxRecDepth 100000 in
theorem mt_X5_isMeasure (l : Launch) {Z : ZW} (hZ : isC Z) (σ : SS) (sz : Nat) (x0 : Int32) (x1 : Int32) (K : SS → Int32 → Prop) (h : wp_X5_isMeasure σ x0 x1 K) : mtZ l yX5_isMeasure wsX5_isMeasure (rm9 1 23) Z [.int x0, .int x1] σ sz (qcI Z K sz) := by
  refine Met.ofW (cc := cX5_isMeasure) (maxL := 2) (ret := (some .boolean)) (by decide) rfl ?_
  intro p e s m args below meth c s₁ B hml hv
  obtain ⟨hargs, hsz, hP, hE1, hE2, hE3⟩ := hv
  subst hsz
  have hE : envZ Z s := ⟨hE1, hE2, hE3⟩
  have hx := B.exec
  have hb := B.bytes
  have hr := B.returns
  have hlocks := B.notSynchronized
  have hts := atoms_spec (ws := wsX5_isMeasure) B.pre
  have hown : s.vm.findClass RX5 = some m.cls := findClass_of_methodNamed B.named
  have hS : SZ Z s s.heap [] := va_S.rf
  obtain ⟨ls, hef, hl⟩ := z_entry m hargs (n := 2) (Nat.le_of_ble_eq_true rfl)
  rw [hef]
  have hl : lv_has ls 2 [(0, .int x0), (1, .int x1)] := hl
  have lk194 := hts (.fieldLink RX5 194 "BeatDoubts" "LEAST_MEASURES" "[I") (by decide +kernel)
  have lk197 := hts (.fieldLink RX5 197 "BeatDoubts" "GREATEST_MEASURES" "[I") (by decide +kernel)
  unfold wp_X5_isMeasure at h
  refine lv_iload_n hx hb dX5_isMeasure_0 rfl (lv_at hl 1 rfl) ?_
  refine lv_i2l hx hb dX5_isMeasure_1 rfl ?_
  refine gs_lm hx hb hown hE hS lk194 dX5_isMeasure_2 ?_
  refine lv_iload_n hx hb dX5_isMeasure_5 rfl (lv_at hl 0 rfl) ?_
  obtain ⟨hin, h⟩ := h
  refine gt_lm hx hb hE hS hin dX5_isMeasure_6 ?_
  refine gs_gm hx hb hown hE hS lk197 dX5_isMeasure_7 ?_
  refine lv_iload_n hx hb dX5_isMeasure_10 rfl (lv_at hl 0 rfl) ?_
  obtain ⟨hin, h⟩ := h
  refine gt_gm hx hb hE hS hin dX5_isMeasure_11 ?_
  refine zc_SI (As := [.long x1.toInt64, .int (lmA x0.toNatClampNeg), .int (gmA x0.toNatClampNeg)]) (rest := []) ⟨hx, hb, hml, hown, hts⟩ (va_cwS 3 hts gX5_isMeasure_X5_isWithin rfl rfl rfl hd_X5_isWithin ⟨Nat.le_of_ble_eq_true rfl, Nat.le_of_ble_eq_true rfl⟩) (mt_X5_isWithin l hZ σ _ x1.toInt64 (lmA x0.toNatClampNeg) (gmA x0.toNatClampNeg) _ h) hE hP hS rfl hl.1 rfl (Nat.le_of_ble_eq_true rfl) dX5_isMeasure_12 ⟨Nat.zero_le _, Nat.zero_le _⟩ (fun r12 σ12 H locs h hP hS => ?_)
  exact zr_Z hx hb hr hlocks hP hS h.1 h.2 dX5_isMeasure_15
theorem hd_X5_watcher : yX5_watcher.cls = RX5 ∧ yX5_watcher.cls ≠ "java/lang/invoke/MethodHandle" ∧ yX5_watcher.cls ≠ "java/lang/invoke/VarHandle" ∧ (parseMethodDescriptor yX5_watcher.desc).map (fun d => d.parameters.length) = some 2 := by decide +kernel
set_option maxHeartbeats 4000000 in
set_option maxRecDepth 100000 in
theorem mt_X5_watcher (l : Launch) {Z : ZW} (hZ : isC Z) (σ : SS) (sz : Nat) (x1 : Int32) (x2 : Int32) (K : SS → Int32 → Prop) (h : wp_X5_watcher σ x1 x2 K) : mtZ l yX5_watcher wsX5_watcher (rm9 2 44) Z [.ref (zq Z 0), .int x1, .int x2] σ sz (qcI Z K sz) := by
  refine Met.ofW (cc := cX5_watcher) (maxL := 3) (ret := (some .int)) (by decide) rfl ?_
  intro p e s m args below meth c s₁ B hml hv
  obtain ⟨hargs, hsz, hP, hE1, hE2, hE3⟩ := hv
  subst hsz
  have hE : envZ Z s := ⟨hE1, hE2, hE3⟩
  have hx := B.exec
  have hb := B.bytes
  have hr := B.returns
  have hlocks := B.notSynchronized
  have hts := atoms_spec (ws := wsX5_watcher) B.pre
  have hown : s.vm.findClass RX5 = some m.cls := findClass_of_methodNamed B.named
  have hS : SZ Z s s.heap [] := va_S.rf
  obtain ⟨ls, hef, hl⟩ := z_entry m hargs (n := 3) (Nat.le_of_ble_eq_true rfl)
  rw [hef]
  have hl : lv_has ls 3 [(0, .ref (zq Z 0)), (1, .int x1), (2, .int x2)] := hl
  have in5 : ∀ w ∈ u_ws RX5 TX5 15, w ∈ wsX5_watcher := by decide +kernel
  have lk140 := hts (.fieldLink RX5 140 "BeatDoubts" "watcherCount" "I") (by decide +kernel)
  have lk25 := hts (.fieldLink RX5 25 "BeatDoubts" "watchers" "[LBeatDoubts$Watcher;") (by decide +kernel)
  unfold wp_X5_watcher at h
  refine lv_iload_n hx hb dX5_watcher_0 rfl (lv_at hl 1 rfl) ?_
  refine lv_i2l hx hb dX5_watcher_1 rfl ?_
  refine lv_iconst (v := 0) hx hb dX5_watcher_2 (by decide) ?_
  refine lv_iconst (v := 3) hx hb dX5_watcher_3 (by decide) ?_
  refine zc_SI (As := [.long x1.toInt64, .int 0, .int 3]) (rest := []) ⟨hx, hb, hml, hown, hts⟩ (va_cwS 3 hts gX5_watcher_X5_isWithin rfl rfl rfl hd_X5_isWithin ⟨Nat.le_of_ble_eq_true rfl, Nat.le_of_ble_eq_true rfl⟩) (mt_X5_isWithin l hZ σ _ x1.toInt64 0 3 _ h) hE hP hS rfl hl.1 rfl (Nat.le_of_ble_eq_true rfl) dX5_watcher_4 ⟨Nat.zero_le _, Nat.zero_le _⟩ (fun r4 σ4 H locs h hP hS => ?_)
  refine lv_if_eq (tgt := 18) hx hb dX5_watcher_7 (by decide) (fun hc => ?_) (fun hc => ?_)
  · have h := h.1 hc
    refine lv_bipush (v := (-2)) hx hb dX5_watcher_18 (by decide) ?_
    exact zr_I hx hb hr hlocks hP hS h dX5_watcher_20
  · have h := h.2 hc
    refine lv_iload_n hx hb dX5_watcher_10 rfl (lv_at hl 1 rfl) ?_
    refine lv_iload_n hx hb dX5_watcher_11 rfl (lv_at hl 2 rfl) ?_
    refine zc_SI (As := [.int x1, .int x2]) (rest := []) ⟨hx, hb, hml, hown, hts⟩ (va_cwS 2 hts gX5_watcher_X5_isMeasure rfl rfl rfl hd_X5_isMeasure ⟨Nat.le_of_ble_eq_true rfl, Nat.le_of_ble_eq_true rfl⟩) (mt_X5_isMeasure l hZ σ4 _ x1 x2 _ h) hE hP hS rfl hl.1 rfl (Nat.le_of_ble_eq_true rfl) dX5_watcher_12 ⟨Nat.zero_le _, Nat.zero_le _⟩ (fun r12 σ12 H locs h hP hS => ?_)
    refine lv_if_ne (tgt := 21) hx hb dX5_watcher_15 (by decide) (fun hc => ?_) (fun hc => ?_)
    · have h := h.1 hc
      refine lv_aload_n hx hb dX5_watcher_21 rfl (lv_at hl 0 rfl) ?_
      refine fg_5_6 hZ hx hb hts in5 hown hE hP kd0 lk140 dX5_watcher_22 ?_
      refine lv_iconst (v := 5) hx hb dX5_watcher_25 (by decide) ?_
      refine lv_icmp_lt (tgt := 32) hx hb dX5_watcher_26 (by decide) (fun hc => ?_) (fun hc => ?_)
      · have h := h.1 hc
        refine lv_aload_n hx hb dX5_watcher_32 rfl (lv_at hl 0 rfl) ?_
        refine fg_5_5 hZ hx hb hts in5 hown hE hP kd0 lk25 dX5_watcher_33 ?_
        refine lv_aload_n hx hb dX5_watcher_36 rfl (lv_at hl 0 rfl) ?_
        refine fg_5_6 hZ hx hb hts in5 hown hE hP kd0 lk140 dX5_watcher_37 ?_
        obtain ⟨hin40, h⟩ := h
        refine al_16 hZ hx hb hE hP kr_5_5 hin40 dX5_watcher_40 ?_
        refine lv_iload_n hx hb dX5_watcher_41 rfl (lv_at hl 1 rfl) ?_
        refine lv_iload_n hx hb dX5_watcher_42 rfl (lv_at hl 2 rfl) ?_
        refine zc_VV (As := [.int x1, .int x2]) (rest := []) ⟨hx, hb, hml, hown, hts⟩ (cwV 2 hts gX5_watcher_X4_begin rfl rfl rfl hd_X4_begin ⟨Nat.le_of_ble_eq_true rfl, Nat.le_of_ble_eq_true rfl⟩) (mt_X4_begin l hZ σ12 _ (kWi hin40) x1 x2 _ h) (rc_4 hZ hE hP (kWi hin40)) hE hP hS rfl hl.1 rfl (Nat.le_of_ble_eq_true rfl) dX5_watcher_43 ⟨Nat.zero_le _, Nat.zero_le _⟩ (fun σ43 H locs h hP hS => ?_)
        refine lv_aload_n hx hb dX5_watcher_46 rfl (lv_at hl 0 rfl) ?_
        refine lv_dup hx hb dX5_watcher_47 rfl ?_
        refine fg_5_6 hZ hx hb hts in5 hown hE hP kd0 lk140 dX5_watcher_48 ?_
        refine lv_iconst (v := 1) hx hb dX5_watcher_51 (by decide) ?_
        refine lv_iadd hx hb dX5_watcher_52 ?_
        refine fp_5_6 hZ hx hb hts in5 hown hE hP hS kd0 lk140 dX5_watcher_53 (fun H locs hP hS => ?_)
        refine lv_aload_n hx hb dX5_watcher_56 rfl (lv_at hl 0 rfl) ?_
        refine zc_VV (As := []) (rest := []) ⟨hx, hb, hml, hown, hts⟩ (cwV 0 hts gX5_watcher_X5_forgetWhatFollowed rfl rfl rfl hd_X5_forgetWhatFollowed ⟨Nat.le_of_ble_eq_true rfl, Nat.le_of_ble_eq_true rfl⟩) (mt_X5_forgetWhatFollowed l hZ (sI σ43 0 6 ((gI σ43 0 6) + 1)) _  _ h) (rc_5 hZ hE hP kd0) hE hP hS rfl hl.1 rfl (Nat.le_of_ble_eq_true rfl) dX5_watcher_57 ⟨Nat.zero_le _, Nat.zero_le _⟩ (fun σ57 H locs h hP hS => ?_)
        refine lv_aload_n hx hb dX5_watcher_60 rfl (lv_at hl 0 rfl) ?_
        refine fg_5_6 hZ hx hb hts in5 hown hE hP kd0 lk140 dX5_watcher_61 ?_
        refine lv_iconst (v := 1) hx hb dX5_watcher_64 (by decide) ?_
        refine lv_isub hx hb dX5_watcher_65 ?_
        exact zr_I hx hb hr hlocks hP hS h dX5_watcher_66
      · have h := h.2 hc
        refine lv_bipush (v := (-4)) hx hb dX5_watcher_29 (by decide) ?_
        exact zr_I hx hb hr hlocks hP hS h dX5_watcher_31
    · have h := h.2 hc
      refine lv_bipush (v := (-2)) hx hb dX5_watcher_18 (by decide) ?_
      exact zr_I hx hb hr hlocks hP hS h dX5_watcher_20
theorem hd_X5_leaves : yX5_leaves.cls = RX5 ∧ yX5_leaves.cls ≠ "java/lang/invoke/MethodHandle" ∧ yX5_leaves.cls ≠ "java/lang/invoke/VarHandle" ∧ (parseMethodDescriptor yX5_leaves.desc).map (fun d => d.parameters.length) = some 0 := by decide +kernel
set_option maxHeartbeats 4000000 in
set_option maxRecDepth 100000 in
theorem mt_X5_leaves (l : Launch) {Z : ZW} (hZ : isC Z) (σ : SS) (sz : Nat) (K : SS → Int32 → Prop) (h : wp_X5_leaves σ K) : mtZ l yX5_leaves wsX5_leaves (rm9 1 20) Z [.ref (zq Z 0)] σ sz (qcI Z K sz) := by
  refine Met.ofW (cc := cX5_leaves) (maxL := 1) (ret := (some .int)) (by decide) rfl ?_
  intro p e s m args below meth c s₁ B hml hv
  obtain ⟨hargs, hsz, hP, hE1, hE2, hE3⟩ := hv
  subst hsz
  have hE : envZ Z s := ⟨hE1, hE2, hE3⟩
  have hx := B.exec
  have hb := B.bytes
  have hr := B.returns
  have hlocks := B.notSynchronized
  have hts := atoms_spec (ws := wsX5_leaves) B.pre
  have hown : s.vm.findClass RX5 = some m.cls := findClass_of_methodNamed B.named
  have hS : SZ Z s s.heap [] := va_S.rf
  obtain ⟨ls, hef, hl⟩ := z_entry m hargs (n := 1) (Nat.le_of_ble_eq_true rfl)
  rw [hef]
  have hl : lv_has ls 1 [(0, .ref (zq Z 0))] := hl
  have in5 : ∀ w ∈ u_ws RX5 TX5 15, w ∈ wsX5_leaves := by decide +kernel
  have lk140 := hts (.fieldLink RX5 140 "BeatDoubts" "watcherCount" "I") (by decide +kernel)
  unfold wp_X5_leaves at h
  refine lv_aload_n hx hb dX5_leaves_0 rfl (lv_at hl 0 rfl) ?_
  refine fg_5_6 hZ hx hb hts in5 hown hE hP kd0 lk140 dX5_leaves_1 ?_
  refine lv_if_ne (tgt := 10) hx hb dX5_leaves_4 (by decide) (fun hc => ?_) (fun hc => ?_)
  · have h := h.1 hc
    refine lv_aload_n hx hb dX5_leaves_10 rfl (lv_at hl 0 rfl) ?_
    refine lv_dup hx hb dX5_leaves_11 rfl ?_
    refine fg_5_6 hZ hx hb hts in5 hown hE hP kd0 lk140 dX5_leaves_12 ?_
    refine lv_iconst (v := 1) hx hb dX5_leaves_15 (by decide) ?_
    refine lv_isub hx hb dX5_leaves_16 ?_
    refine fp_5_6 hZ hx hb hts in5 hown hE hP hS kd0 lk140 dX5_leaves_17 (fun H locs hP hS => ?_)
    refine lv_aload_n hx hb dX5_leaves_20 rfl (lv_at hl 0 rfl) ?_
    refine zc_VV (As := []) (rest := []) ⟨hx, hb, hml, hown, hts⟩ (cwV 0 hts gX5_leaves_X5_forgetWhatFollowed rfl rfl rfl hd_X5_forgetWhatFollowed ⟨Nat.le_of_ble_eq_true rfl, Nat.le_of_ble_eq_true rfl⟩) (mt_X5_forgetWhatFollowed l hZ (sI σ 0 6 ((gI σ 0 6) - 1)) _  _ h) (rc_5 hZ hE hP kd0) hE hP hS rfl hl.1 rfl (Nat.le_of_ble_eq_true rfl) dX5_leaves_21 ⟨Nat.zero_le _, Nat.zero_le _⟩ (fun σ21 H locs h hP hS => ?_)
    refine lv_aload_n hx hb dX5_leaves_24 rfl (lv_at hl 0 rfl) ?_
    refine fg_5_6 hZ hx hb hts in5 hown hE hP kd0 lk140 dX5_leaves_25 ?_
    exact zr_I hx hb hr hlocks hP hS h dX5_leaves_28
  · have h := h.2 hc
    refine lv_bipush (v := (-3)) hx hb dX5_leaves_7 (by decide) ?_
    exact zr_I hx hb hr hlocks hP hS h dX5_leaves_9
theorem hd_X5_isWatcher : yX5_isWatcher.cls = RX5 ∧ yX5_isWatcher.cls ≠ "java/lang/invoke/MethodHandle" ∧ yX5_isWatcher.cls ≠ "java/lang/invoke/VarHandle" ∧ (parseMethodDescriptor yX5_isWatcher.desc).map (fun d => d.parameters.length) = some 1 := by decide +kernel
set_option maxHeartbeats 4000000 in
set_option maxRecDepth 100000 in
theorem mt_X5_isWatcher (l : Launch) {Z : ZW} (hZ : isC Z) (σ : SS) (sz : Nat) (x1 : Int32) (K : SS → Int32 → Prop) (h : wp_X5_isWatcher σ x1 K) : mtZ l yX5_isWatcher wsX5_isWatcher (rm9 1 23) Z [.ref (zq Z 0), .int x1] σ sz (qcI Z K sz) := by
  refine Met.ofW (cc := cX5_isWatcher) (maxL := 2) (ret := (some .boolean)) (by decide) rfl ?_
  intro p e s m args below meth c s₁ B hml hv
  obtain ⟨hargs, hsz, hP, hE1, hE2, hE3⟩ := hv
  subst hsz
  have hE : envZ Z s := ⟨hE1, hE2, hE3⟩
  have hx := B.exec
  have hb := B.bytes
  have hr := B.returns
  have hlocks := B.notSynchronized
  have hts := atoms_spec (ws := wsX5_isWatcher) B.pre
  have hown : s.vm.findClass RX5 = some m.cls := findClass_of_methodNamed B.named
  have hS : SZ Z s s.heap [] := va_S.rf
  obtain ⟨ls, hef, hl⟩ := z_entry m hargs (n := 2) (Nat.le_of_ble_eq_true rfl)
  rw [hef]
  have hl : lv_has ls 2 [(0, .ref (zq Z 0)), (1, .int x1)] := hl
  have in5 : ∀ w ∈ u_ws RX5 TX5 15, w ∈ wsX5_isWatcher := by decide +kernel
  have lk140 := hts (.fieldLink RX5 140 "BeatDoubts" "watcherCount" "I") (by decide +kernel)
  unfold wp_X5_isWatcher at h
  refine lv_iload_n hx hb dX5_isWatcher_0 rfl (lv_at hl 1 rfl) ?_
  refine lv_i2l hx hb dX5_isWatcher_1 rfl ?_
  refine lv_iconst (v := 0) hx hb dX5_isWatcher_2 (by decide) ?_
  refine lv_aload_n hx hb dX5_isWatcher_3 rfl (lv_at hl 0 rfl) ?_
  refine fg_5_6 hZ hx hb hts in5 hown hE hP kd0 lk140 dX5_isWatcher_4 ?_
  refine lv_iconst (v := 1) hx hb dX5_isWatcher_7 (by decide) ?_
  refine lv_isub hx hb dX5_isWatcher_8 ?_
  refine zc_SI (As := [.long x1.toInt64, .int 0, .int ((gI σ 0 6) - 1)]) (rest := []) ⟨hx, hb, hml, hown, hts⟩ (va_cwS 3 hts gX5_isWatcher_X5_isWithin rfl rfl rfl hd_X5_isWithin ⟨Nat.le_of_ble_eq_true rfl, Nat.le_of_ble_eq_true rfl⟩) (mt_X5_isWithin l hZ σ _ x1.toInt64 0 ((gI σ 0 6) - 1) _ h) hE hP hS rfl hl.1 rfl (Nat.le_of_ble_eq_true rfl) dX5_isWatcher_9 ⟨Nat.zero_le _, Nat.zero_le _⟩ (fun r9 σ9 H locs h hP hS => ?_)
  exact zr_Z hx hb hr hlocks hP hS h.1 h.2 dX5_isWatcher_12
theorem hd_X5_measure : yX5_measure.cls = RX5 ∧ yX5_measure.cls ≠ "java/lang/invoke/MethodHandle" ∧ yX5_measure.cls ≠ "java/lang/invoke/VarHandle" ∧ (parseMethodDescriptor yX5_measure.desc).map (fun d => d.parameters.length) = some 2 := by decide +kernel
set_option maxHeartbeats 4000000 in
set_option maxRecDepth 100000 in
theorem mt_X5_measure (l : Launch) {Z : ZW} (hZ : isC Z) (σ : SS) (sz : Nat) (x1 : Int32) (x2 : Int32) (K : SS → Int32 → Prop) (h : wp_X5_measure σ x1 x2 K) : mtZ l yX5_measure wsX5_measure (rm9 2 44) Z [.ref (zq Z 0), .int x1, .int x2] σ sz (qcI Z K sz) := by
  refine Met.ofW (cc := cX5_measure) (maxL := 4) (ret := (some .int)) (by decide) rfl ?_
  intro p e s m args below meth c s₁ B hml hv
  obtain ⟨hargs, hsz, hP, hE1, hE2, hE3⟩ := hv
  subst hsz
  have hE : envZ Z s := ⟨hE1, hE2, hE3⟩
  have hx := B.exec
  have hb := B.bytes
  have hr := B.returns
  have hlocks := B.notSynchronized
  have hts := atoms_spec (ws := wsX5_measure) B.pre
  have hown : s.vm.findClass RX5 = some m.cls := findClass_of_methodNamed B.named
  have hS : SZ Z s s.heap [] := va_S.rf
  obtain ⟨ls, hef, hl⟩ := z_entry m hargs (n := 4) (Nat.le_of_ble_eq_true rfl)
  rw [hef]
  have hl : lv_has ls 4 [(0, .ref (zq Z 0)), (1, .int x1), (2, .int x2)] := hl
  have in4 : ∀ w ∈ u_ws RX4 TX4 5, w ∈ wsX5_measure := by decide +kernel
  have in5 : ∀ w ∈ u_ws RX5 TX5 15, w ∈ wsX5_measure := by decide +kernel
  have lk151 := hts (.fieldLink RX5 151 "BeatDoubts$Watcher" "sort" "I") (by decide +kernel)
  have lk154 := hts (.fieldLink RX5 154 "BeatDoubts$Watcher" "measure" "I") (by decide +kernel)
  have lk25 := hts (.fieldLink RX5 25 "BeatDoubts" "watchers" "[LBeatDoubts$Watcher;") (by decide +kernel)
  unfold wp_X5_measure at h
  refine lv_aload_n hx hb dX5_measure_0 rfl (lv_at hl 0 rfl) ?_
  refine lv_iload_n hx hb dX5_measure_1 rfl (lv_at hl 1 rfl) ?_
  refine zc_VI (As := [.int x1]) (rest := []) ⟨hx, hb, hml, hown, hts⟩ (cwV 1 hts gX5_measure_X5_isWatcher rfl rfl rfl hd_X5_isWatcher ⟨Nat.le_of_ble_eq_true rfl, Nat.le_of_ble_eq_true rfl⟩) (mt_X5_isWatcher l hZ σ _ x1 _ h) (rc_5 hZ hE hP kd0) hE hP hS rfl hl.1 rfl (Nat.le_of_ble_eq_true rfl) dX5_measure_2 ⟨Nat.zero_le _, Nat.zero_le _⟩ (fun r2 σ2 H locs h hP hS => ?_)
  refine lv_if_eq (tgt := 24) hx hb dX5_measure_5 (by decide) (fun hc => ?_) (fun hc => ?_)
  · have h := h.1 hc
    refine lv_bipush (v := (-2)) hx hb dX5_measure_24 (by decide) ?_
    exact zr_I hx hb hr hlocks hP hS h dX5_measure_26
  · have h := h.2 hc
    refine lv_aload_n hx hb dX5_measure_8 rfl (lv_at hl 0 rfl) ?_
    refine fg_5_5 hZ hx hb hts in5 hown hE hP kd0 lk25 dX5_measure_9 ?_
    refine lv_iload_n hx hb dX5_measure_12 rfl (lv_at hl 1 rfl) ?_
    obtain ⟨hin13, h⟩ := h
    refine al_16 hZ hx hb hE hP kr_5_5 hin13 dX5_measure_13 ?_
    refine fg_4_0 hZ hx hb hts in4 hown hE hP (kWi hin13) lk151 dX5_measure_14 ?_
    refine lv_iload_n hx hb dX5_measure_17 rfl (lv_at hl 2 rfl) ?_
    refine zc_SI (As := [.int (gI σ2 (26 + 6 * x1.toNatClampNeg) 0), .int x2]) (rest := []) ⟨hx, hb, hml, hown, hts⟩ (va_cwS 2 hts gX5_measure_X5_isMeasure rfl rfl rfl hd_X5_isMeasure ⟨Nat.le_of_ble_eq_true rfl, Nat.le_of_ble_eq_true rfl⟩) (mt_X5_isMeasure l hZ σ2 _ (gI σ2 (26 + 6 * x1.toNatClampNeg) 0) x2 _ h) hE hP hS rfl hl.1 rfl (Nat.le_of_ble_eq_true rfl) dX5_measure_18 ⟨Nat.zero_le _, Nat.zero_le _⟩ (fun r18 σ18 H locs h hP hS => ?_)
    refine lv_if_ne (tgt := 27) hx hb dX5_measure_21 (by decide) (fun hc => ?_) (fun hc => ?_)
    · have h := h.1 hc
      refine lv_aload_n hx hb dX5_measure_27 rfl (lv_at hl 0 rfl) ?_
      refine fg_5_5 hZ hx hb hts in5 hown hE hP kd0 lk25 dX5_measure_28 ?_
      refine lv_iload_n hx hb dX5_measure_31 rfl (lv_at hl 1 rfl) ?_
      obtain ⟨hin32, h⟩ := h
      refine al_16 hZ hx hb hE hP kr_5_5 hin32 dX5_measure_32 ?_
      refine fg_4_1 hZ hx hb hts in4 hown hE hP (kWi hin32) lk154 dX5_measure_33 ?_
      refine lv_istore_n (lv' := [(3, .int (gI σ18 (26 + 6 * x1.toNatClampNeg) 1)), (0, .ref (zq Z 0)), (1, .int x1), (2, .int x2)]) hx hb dX5_measure_36 rfl hl (by decide) rfl (fun ls hl => ?_)
      refine lv_aload_n hx hb dX5_measure_37 rfl (lv_at hl 1 rfl) ?_
      refine fg_5_5 hZ hx hb hts in5 hown hE hP kd0 lk25 dX5_measure_38 ?_
      refine lv_iload_n hx hb dX5_measure_41 rfl (lv_at hl 2 rfl) ?_
      obtain ⟨hin42, h⟩ := h
      refine al_16 hZ hx hb hE hP kr_5_5 hin42 dX5_measure_42 ?_
      refine lv_iload_n hx hb dX5_measure_43 rfl (lv_at hl 3 rfl) ?_
      refine fp_4_1 hZ hx hb hts in4 hown hE hP hS (kWi hin42) lk154 dX5_measure_44 (fun H locs hP hS => ?_)
      refine lv_aload_n hx hb dX5_measure_47 rfl (lv_at hl 1 rfl) ?_
      refine zc_VV (As := []) (rest := []) ⟨hx, hb, hml, hown, hts⟩ (cwV 0 hts gX5_measure_X5_forgetWhatFollowed rfl rfl rfl hd_X5_forgetWhatFollowed ⟨Nat.le_of_ble_eq_true rfl, Nat.le_of_ble_eq_true rfl⟩) (mt_X5_forgetWhatFollowed l hZ (sI σ18 (26 + 6 * x1.toNatClampNeg) 1 x2) _  _ h) (rc_5 hZ hE hP kd0) hE hP hS rfl hl.1 rfl (Nat.le_of_ble_eq_true rfl) dX5_measure_48 ⟨Nat.zero_le _, Nat.zero_le _⟩ (fun σ48 H locs h hP hS => ?_)
      refine lv_iload_n hx hb dX5_measure_51 rfl (lv_at hl 0 rfl) ?_
      exact zr_I hx hb hr hlocks hP hS h dX5_measure_52
    · have h := h.2 hc
      refine lv_bipush (v := (-2)) hx hb dX5_measure_24 (by decide) ?_
      exact zr_I hx hb hr hlocks hP hS h dX5_measure_26
