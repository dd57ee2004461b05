theorem hd_X5_countLost : yX5_countLost.cls = RX5 ∧ yX5_countLost.cls ≠ "java/lang/invoke/MethodHandle" ∧ yX5_countLost.cls ≠ "java/lang/invoke/VarHandle" ∧ (parseMethodDescriptor yX5_countLost.desc).map (fun d => d.parameters.length) = some 0 := by decide +kernel
set_option maxHeartbeats 4000000 in
set_option maxRecDepth 100000 in
theorem mt_X5_countLost (l : Launch) {Z : ZW} (hZ : isC Z) (σ : SS) (sz : Nat) (K : SS → Int32 → Prop) (h : wp_X5_countLost σ K) : mtZ l yX5_countLost wsX5_countLost (rm9 0 0) Z [.ref (zq Z 0)] σ sz (qcI Z K sz) := by
  refine Met.ofW (cc := cX5_countLost) (maxL := 3) (ret := (some .int)) (by decide) rfl ?_
  intro p e s m args below meth c s₁ B hml hv
  obtain ⟨hargs, hsz, hP, hE1, hE2, hE3⟩ := hv
  subst hsz
  have hE : envZ Z s := ⟨hE1, hE2, hE3⟩
  have hx := B.exec
  have hb := B.bytes
  have hr := B.returns
  have hlocks := B.notSynchronized
  have hts := atoms_spec (ws := wsX5_countLost) B.pre
  have hown : s.vm.findClass RX5 = some m.cls := findClass_of_methodNamed B.named
  have hS : SZ Z s s.heap [] := va_S.rf
  obtain ⟨ls, hef, hl⟩ := z_entry m hargs (n := 3) (Nat.le_of_ble_eq_true rfl)
  rw [hef]
  have hl : lv_has ls 3 [(0, .ref (zq Z 0))] := hl
  have in0 : ∀ w ∈ u_ws RX0 TX0 10, w ∈ wsX5_countLost := by decide +kernel
  have in5 : ∀ w ∈ u_ws RX5 TX5 15, w ∈ wsX5_countLost := by decide +kernel
  have lk40 := hts (.fieldLink RX5 40 "BeatDoubts" "arrivals" "LBeatDoubts$Arrivals;") (by decide +kernel)
  have lk61 := hts (.fieldLink RX5 61 "BeatDoubts" "beatCount" "I") (by decide +kernel)
  have lk97 := hts (.fieldLink RX5 97 "BeatDoubts$Arrivals" "timeOfBeat" "[I") (by decide +kernel)
  have B4 : ∀ (n : Nat) (σ : SS) (x1 : Int32) (x2 : Int32) (H : Heap) (locs : List Loc) (ls : Array Slot), fx3 (lb_X5_countLost_4 K) n σ x1 x2 → PZ Z σ H → SZ Z s H locs → lv_has ls 3 [(0, .ref (zq Z 0)), (1, .int x1), (2, .int x2)] → W p l e (headSpec wsX5_countLost (rm9 0 0)).room s m args below meth c H locs 0 0 (MQ below (qcI Z K s.heap.size) args s 0 0 (aZ Z s.heap.size)) (F0 m 4 ls []) := by
    intro n4
    induction n4 with
    | zero => intro σ x1 x2 H locs ls h; exact h.elim
    | succ n4 ih4 =>
      intro σ x1 x2 H locs ls h hP hS hl
      have h : lb_X5_countLost_4 K (fx3 (lb_X5_countLost_4 K) n4) σ x1 x2 := h
      unfold lb_X5_countLost_4 at h
      refine lv_iload_n hx hb dX5_countLost_4 rfl (lv_at hl 2 rfl) ?_
      refine lv_aload_n hx hb dX5_countLost_5 rfl (lv_at hl 0 rfl) ?_
      refine fg_5_1 hZ hx hb hts in5 hown hE hP kd0 lk61 dX5_countLost_6 ?_
      refine lv_icmp_ge (tgt := 34) hx hb dX5_countLost_9 (by decide) (fun hc => ?_) (fun hc => ?_)
      · have h := h.1 hc
        refine lv_iload_n hx hb dX5_countLost_34 rfl (lv_at hl 1 rfl) ?_
        exact zr_I hx hb hr hlocks hP hS h dX5_countLost_35
      · have h := h.2 hc
        refine lv_aload_n hx hb dX5_countLost_12 rfl (lv_at hl 0 rfl) ?_
        refine fg_5_9 hZ hx hb hts in5 hown hE hP kd0 lk40 dX5_countLost_13 ?_
        refine fg_0_0 hZ hx hb hts in0 hown hE hP kr_5_9 lk97 dX5_countLost_16 ?_
        refine lv_iload_n hx hb dX5_countLost_19 rfl (lv_at hl 2 rfl) ?_
        obtain ⟨hin, h⟩ := h
        refine al_10 hZ hx hb hE hP (kr_0_0 kr_5_9) hin dX5_countLost_20 ?_
        refine lv_iconst (v := (-1)) hx hb dX5_countLost_21 (by decide) ?_
        refine lv_icmp_ne (tgt := 28) hx hb dX5_countLost_22 (by decide) (fun hc => ?_) (fun hc => ?_)
        · have h := h.1 hc
          refine lv_iinc (v := (x2 + 1)) (lv' := [(2, .int (x2 + 1)), (0, .ref (zq Z 0)), (1, .int x1)]) hx hb dX5_countLost_28 hl (k := 2) rfl rfl (by decide) rfl (fun ls hl => ?_)
          refine lv_goto (tgt := 4) hx hb dX5_countLost_31 (by decide) ?_
          exact ih4 σ x1 (x2 + 1) _ _ _ h hP hS (lv_sub hl [1, 2, 0] rfl)
        · have h := h.2 hc
          refine lv_iinc (v := (x1 + 1)) (lv' := [(1, .int (x1 + 1)), (0, .ref (zq Z 0)), (2, .int x2)]) hx hb dX5_countLost_25 hl (k := 1) rfl rfl (by decide) rfl (fun ls hl => ?_)
          refine lv_iinc (v := (x2 + 1)) (lv' := [(2, .int (x2 + 1)), (1, .int (x1 + 1)), (0, .ref (zq Z 0))]) hx hb dX5_countLost_28 hl (k := 2) rfl rfl (by decide) rfl (fun ls hl => ?_)
          refine lv_goto (tgt := 4) hx hb dX5_countLost_31 (by decide) ?_
          exact ih4 σ (x1 + 1) (x2 + 1) _ _ _ h hP hS (lv_sub hl [2, 1, 0] rfl)
  unfold wp_X5_countLost at h
  refine lv_iconst (v := 0) hx hb dX5_countLost_0 (by decide) ?_
  refine lv_istore_n (lv' := [(1, .int 0), (0, .ref (zq Z 0))]) hx hb dX5_countLost_1 rfl hl (by decide) rfl (fun ls hl => ?_)
  refine lv_iconst (v := 0) hx hb dX5_countLost_2 (by decide) ?_
  refine lv_istore_n (lv' := [(2, .int 0), (1, .int 0), (0, .ref (zq Z 0))]) hx hb dX5_countLost_3 rfl hl (by decide) rfl (fun ls hl => ?_)
  obtain ⟨n, h⟩ := h
  exact B4 n σ 0 0 _ _ _ h hP hS (lv_sub hl [2, 1, 0] rfl)
theorem hd_X5_countMistakes : yX5_countMistakes.cls = RX5 ∧ yX5_countMistakes.cls ≠ "java/lang/invoke/MethodHandle" ∧ yX5_countMistakes.cls ≠ "java/lang/invoke/VarHandle" ∧ (parseMethodDescriptor yX5_countMistakes.desc).map (fun d => d.parameters.length) = some 0 := by decide +kernel
set_option maxHeartbeats 4000000 in
set_option maxRecDepth 100000 in
theorem mt_X5_countMistakes (l : Launch) {Z : ZW} (hZ : isC Z) (σ : SS) (sz : Nat) (K : SS → Int32 → Prop) (h : wp_X5_countMistakes σ K) : mtZ l yX5_countMistakes wsX5_countMistakes (rm9 0 0) Z [.ref (zq Z 0)] σ sz (qcI Z K sz) := by
  refine Met.ofW (cc := cX5_countMistakes) (maxL := 3) (ret := (some .int)) (by decide) rfl ?_
  intro p e s m args below meth c s₁ B hml hv
  obtain ⟨hargs, hsz, hP, hE1, hE2, hE3⟩ := hv
  subst hsz
  have hE : envZ Z s := ⟨hE1, hE2, hE3⟩
  have hx := B.exec
  have hb := B.bytes
  have hr := B.returns
  have hlocks := B.notSynchronized
  have hts := atoms_spec (ws := wsX5_countMistakes) B.pre
  have hown : s.vm.findClass RX5 = some m.cls := findClass_of_methodNamed B.named
  have hS : SZ Z s s.heap [] := va_S.rf
  obtain ⟨ls, hef, hl⟩ := z_entry m hargs (n := 3) (Nat.le_of_ble_eq_true rfl)
  rw [hef]
  have hl : lv_has ls 3 [(0, .ref (zq Z 0))] := hl
  have in1 : ∀ w ∈ u_ws RX1 TX1 8, w ∈ wsX5_countMistakes := by decide +kernel
  have in4 : ∀ w ∈ u_ws RX4 TX4 5, w ∈ wsX5_countMistakes := by decide +kernel
  have in5 : ∀ w ∈ u_ws RX5 TX5 15, w ∈ wsX5_countMistakes := by decide +kernel
  have lk140 := hts (.fieldLink RX5 140 "BeatDoubts" "watcherCount" "I") (by decide +kernel)
  have lk163 := hts (.fieldLink RX5 163 "BeatDoubts$Watcher" "diary" "LBeatDoubts$Diary;") (by decide +kernel)
  have lk166 := hts (.fieldLink RX5 166 "BeatDoubts$Diary" "mistakeCount" "I") (by decide +kernel)
  have lk25 := hts (.fieldLink RX5 25 "BeatDoubts" "watchers" "[LBeatDoubts$Watcher;") (by decide +kernel)
  have B4 : ∀ (n : Nat) (σ : SS) (x1 : Int32) (x2 : Int32) (H : Heap) (locs : List Loc) (ls : Array Slot), fx3 (lb_X5_countMistakes_4 K) n σ x1 x2 → PZ Z σ H → SZ Z s H locs → lv_has ls 3 [(0, .ref (zq Z 0)), (1, .int x1), (2, .int x2)] → W p l e (headSpec wsX5_countMistakes (rm9 0 0)).room s m args below meth c H locs 0 0 (MQ below (qcI Z K s.heap.size) args s 0 0 (aZ Z s.heap.size)) (F0 m 4 ls []) := by
    intro n4
    induction n4 with
    | zero => intro σ x1 x2 H locs ls h; exact h.elim
    | succ n4 ih4 =>
      intro σ x1 x2 H locs ls h hP hS hl
      have h : lb_X5_countMistakes_4 K (fx3 (lb_X5_countMistakes_4 K) n4) σ x1 x2 := h
      unfold lb_X5_countMistakes_4 at h
      refine lv_iload_n hx hb dX5_countMistakes_4 rfl (lv_at hl 2 rfl) ?_
      refine lv_aload_n hx hb dX5_countMistakes_5 rfl (lv_at hl 0 rfl) ?_
      refine fg_5_6 hZ hx hb hts in5 hown hE hP kd0 lk140 dX5_countMistakes_6 ?_
      refine lv_icmp_ge (tgt := 33) hx hb dX5_countMistakes_9 (by decide) (fun hc => ?_) (fun hc => ?_)
      · have h := h.1 hc
        refine lv_iload_n hx hb dX5_countMistakes_33 rfl (lv_at hl 1 rfl) ?_
        exact zr_I hx hb hr hlocks hP hS h dX5_countMistakes_34
      · have h := h.2 hc
        refine lv_iload_n hx hb dX5_countMistakes_12 rfl (lv_at hl 1 rfl) ?_
        refine lv_aload_n hx hb dX5_countMistakes_13 rfl (lv_at hl 0 rfl) ?_
        refine fg_5_5 hZ hx hb hts in5 hown hE hP kd0 lk25 dX5_countMistakes_14 ?_
        refine lv_iload_n hx hb dX5_countMistakes_17 rfl (lv_at hl 2 rfl) ?_
        obtain ⟨hin18, h⟩ := h
        refine al_16 hZ hx hb hE hP kr_5_5 hin18 dX5_countMistakes_18 ?_
        refine fg_4_4 hZ hx hb hts in4 hown hE hP (kWi hin18) lk163 dX5_countMistakes_19 ?_
        refine fg_1_3 hZ hx hb hts in1 hown hE hP (kr_4_4 (kWi hin18)) lk166 dX5_countMistakes_22 ?_
        refine lv_iadd hx hb dX5_countMistakes_25 ?_
        refine lv_istore_n (lv' := [(1, .int (x1 + (gI σ ((26 + 6 * x2.toNatClampNeg) + 1) 3))), (0, .ref (zq Z 0)), (2, .int x2)]) hx hb dX5_countMistakes_26 rfl hl (by decide) rfl (fun ls hl => ?_)
        refine lv_iinc (v := (x2 + 1)) (lv' := [(2, .int (x2 + 1)), (1, .int (x1 + (gI σ ((26 + 6 * x2.toNatClampNeg) + 1) 3))), (0, .ref (zq Z 0))]) hx hb dX5_countMistakes_27 hl (k := 2) rfl rfl (by decide) rfl (fun ls hl => ?_)
        refine lv_goto (tgt := 4) hx hb dX5_countMistakes_30 (by decide) ?_
        exact ih4 σ (x1 + (gI σ ((26 + 6 * x2.toNatClampNeg) + 1) 3)) (x2 + 1) _ _ _ h hP hS (lv_sub hl [2, 1, 0] rfl)
  unfold wp_X5_countMistakes at h
  refine lv_iconst (v := 0) hx hb dX5_countMistakes_0 (by decide) ?_
  refine lv_istore_n (lv' := [(1, .int 0), (0, .ref (zq Z 0))]) hx hb dX5_countMistakes_1 rfl hl (by decide) rfl (fun ls hl => ?_)
  refine lv_iconst (v := 0) hx hb dX5_countMistakes_2 (by decide) ?_
  refine lv_istore_n (lv' := [(2, .int 0), (1, .int 0), (0, .ref (zq Z 0))]) hx hb dX5_countMistakes_3 rfl hl (by decide) rfl (fun ls hl => ?_)
  obtain ⟨n, h⟩ := h
  exact B4 n σ 0 0 _ _ _ h hP hS (lv_sub hl [2, 1, 0] rfl)
theorem hd_X5_whoKeepsWishes : yX5_whoKeepsWishes.cls = RX5 ∧ yX5_whoKeepsWishes.cls ≠ "java/lang/invoke/MethodHandle" ∧ yX5_whoKeepsWishes.cls ≠ "java/lang/invoke/VarHandle" ∧ (parseMethodDescriptor yX5_whoKeepsWishes.desc).map (fun d => d.parameters.length) = some 0 := by decide +kernel
set_option maxHeartbeats 4000000 in
set_option maxRecDepth 100000 in
theorem mt_X5_whoKeepsWishes (l : Launch) {Z : ZW} (hZ : isC Z) (σ : SS) (sz : Nat) (K : SS → Int32 → Prop) (h : wp_X5_whoKeepsWishes σ K) : mtZ l yX5_whoKeepsWishes wsX5_whoKeepsWishes (rm9 1 21) Z [.ref (zq Z 0)] σ sz (qcI Z K sz) := by
  refine Met.ofW (cc := cX5_whoKeepsWishes) (maxL := 3) (ret := (some .int)) (by decide) rfl ?_
  intro p e s m args below meth c s₁ B hml hv
  obtain ⟨hargs, hsz, hP, hE1, hE2, hE3⟩ := hv
  subst hsz
  have hE : envZ Z s := ⟨hE1, hE2, hE3⟩
  have hx := B.exec
  have hb := B.bytes
  have hr := B.returns
  have hlocks := B.notSynchronized
  have hts := atoms_spec (ws := wsX5_whoKeepsWishes) B.pre
  have hown : s.vm.findClass RX5 = some m.cls := findClass_of_methodNamed B.named
  have hS : SZ Z s s.heap [] := va_S.rf
  obtain ⟨ls, hef, hl⟩ := z_entry m hargs (n := 3) (Nat.le_of_ble_eq_true rfl)
  rw [hef]
  have hl : lv_has ls 3 [(0, .ref (zq Z 0))] := hl
  have in4 : ∀ w ∈ u_ws RX4 TX4 5, w ∈ wsX5_whoKeepsWishes := by decide +kernel
  have in5 : ∀ w ∈ u_ws RX5 TX5 15, w ∈ wsX5_whoKeepsWishes := by decide +kernel
  have lk140 := hts (.fieldLink RX5 140 "BeatDoubts" "watcherCount" "I") (by decide +kernel)
  have lk163 := hts (.fieldLink RX5 163 "BeatDoubts$Watcher" "diary" "LBeatDoubts$Diary;") (by decide +kernel)
  have lk25 := hts (.fieldLink RX5 25 "BeatDoubts" "watchers" "[LBeatDoubts$Watcher;") (by decide +kernel)
  have B4 : ∀ (n : Nat) (σ : SS) (x1 : Int32) (x2 : Int32) (H : Heap) (locs : List Loc) (ls : Array Slot), fx3 (lb_X5_whoKeepsWishes_4 K) n σ x1 x2 → PZ Z σ H → SZ Z s H locs → lv_has ls 3 [(0, .ref (zq Z 0)), (1, .int x1), (2, .int x2)] → W p l e (headSpec wsX5_whoKeepsWishes (rm9 1 21)).room s m args below meth c H locs 0 0 (MQ below (qcI Z K s.heap.size) args s 0 0 (aZ Z s.heap.size)) (F0 m 4 ls []) := by
    intro n4
    induction n4 with
    | zero => intro σ x1 x2 H locs ls h; exact h.elim
    | succ n4 ih4 =>
      intro σ x1 x2 H locs ls h hP hS hl
      have h : lb_X5_whoKeepsWishes_4 K (fx3 (lb_X5_whoKeepsWishes_4 K) n4) σ x1 x2 := h
      unfold lb_X5_whoKeepsWishes_4 at h
      refine lv_iload_n hx hb dX5_whoKeepsWishes_4 rfl (lv_at hl 2 rfl) ?_
      refine lv_aload_n hx hb dX5_whoKeepsWishes_5 rfl (lv_at hl 0 rfl) ?_
      refine fg_5_6 hZ hx hb hts in5 hown hE hP kd0 lk140 dX5_whoKeepsWishes_6 ?_
      refine lv_icmp_ge (tgt := 45) hx hb dX5_whoKeepsWishes_9 (by decide) (fun hc => ?_) (fun hc => ?_)
      · have h := h.1 hc
        refine lv_iload_n hx hb dX5_whoKeepsWishes_45 rfl (lv_at hl 1 rfl) ?_
        exact zr_I hx hb hr hlocks hP hS h dX5_whoKeepsWishes_46
      · have h := h.2 hc
        refine lv_aload_n hx hb dX5_whoKeepsWishes_12 rfl (lv_at hl 0 rfl) ?_
        refine fg_5_5 hZ hx hb hts in5 hown hE hP kd0 lk25 dX5_whoKeepsWishes_13 ?_
        refine lv_iload_n hx hb dX5_whoKeepsWishes_16 rfl (lv_at hl 2 rfl) ?_
        obtain ⟨hin17, h⟩ := h
        refine al_16 hZ hx hb hE hP kr_5_5 hin17 dX5_whoKeepsWishes_17 ?_
        refine lv_aload_n hx hb dX5_whoKeepsWishes_18 rfl (lv_at hl 0 rfl) ?_
        refine fg_5_5 hZ hx hb hts in5 hown hE hP kd0 lk25 dX5_whoKeepsWishes_19 ?_
        refine lv_iload_n hx hb dX5_whoKeepsWishes_22 rfl (lv_at hl 2 rfl) ?_
        obtain ⟨hin23, h⟩ := h
        refine al_16 hZ hx hb hE hP kr_5_5 hin23 dX5_whoKeepsWishes_23 ?_
        refine fg_4_4 hZ hx hb hts in4 hown hE hP (kWi hin23) lk163 dX5_whoKeepsWishes_24 ?_
        refine zc_VI (As := [.ref (zq Z ((26 + 6 * x2.toNatClampNeg) + 1))]) (rest := []) ⟨hx, hb, hml, hown, hts⟩ (cwV 1 hts gX5_whoKeepsWishes_X4_keepsWishes rfl rfl rfl hd_X4_keepsWishes ⟨Nat.le_of_ble_eq_true rfl, Nat.le_of_ble_eq_true rfl⟩) (mt_X4_keepsWishes l hZ σ _ (kWi hin17) (kr_4_4 (kWi hin23)) _ h) (rc_4 hZ hE hP (kWi hin17)) hE hP hS rfl hl.1 rfl (Nat.le_of_ble_eq_true rfl) dX5_whoKeepsWishes_27 ⟨Nat.zero_le _, Nat.zero_le _⟩ (fun r27 σ27 H locs h hP hS => ?_)
        refine lv_if_eq (tgt := 39) hx hb dX5_whoKeepsWishes_30 (by decide) (fun hc => ?_) (fun hc => ?_)
        · have h := h.1 hc
          refine lv_iinc (v := (x2 + 1)) (lv' := [(2, .int (x2 + 1)), (0, .ref (zq Z 0)), (1, .int x1)]) hx hb dX5_whoKeepsWishes_39 hl (k := 2) rfl rfl (by decide) rfl (fun ls hl => ?_)
          refine lv_goto (tgt := 4) hx hb dX5_whoKeepsWishes_42 (by decide) ?_
          exact ih4 σ27 x1 (x2 + 1) _ _ _ h hP hS (lv_sub hl [1, 2, 0] rfl)
        · have h := h.2 hc
          refine lv_iload_n hx hb dX5_whoKeepsWishes_33 rfl (lv_at hl 1 rfl) ?_
          refine lv_iconst (v := 1) hx hb dX5_whoKeepsWishes_34 (by decide) ?_
          refine lv_iload_n hx hb dX5_whoKeepsWishes_35 rfl (lv_at hl 2 rfl) ?_
          refine lv_ishl hx hb dX5_whoKeepsWishes_36 ?_
          refine lv_ior hx hb dX5_whoKeepsWishes_37 ?_
          refine lv_istore_n (lv' := [(1, .int (x1 ||| ((1 : Int32) <<< (x2 &&& 31)))), (0, .ref (zq Z 0)), (2, .int x2)]) hx hb dX5_whoKeepsWishes_38 rfl hl (by decide) rfl (fun ls hl => ?_)
          refine lv_iinc (v := (x2 + 1)) (lv' := [(2, .int (x2 + 1)), (1, .int (x1 ||| ((1 : Int32) <<< (x2 &&& 31)))), (0, .ref (zq Z 0))]) hx hb dX5_whoKeepsWishes_39 hl (k := 2) rfl rfl (by decide) rfl (fun ls hl => ?_)
          refine lv_goto (tgt := 4) hx hb dX5_whoKeepsWishes_42 (by decide) ?_
          exact ih4 σ27 (x1 ||| ((1 : Int32) <<< (x2 &&& 31))) (x2 + 1) _ _ _ h hP hS (lv_sub hl [2, 1, 0] rfl)
  unfold wp_X5_whoKeepsWishes at h
  refine lv_iconst (v := 0) hx hb dX5_whoKeepsWishes_0 (by decide) ?_
  refine lv_istore_n (lv' := [(1, .int 0), (0, .ref (zq Z 0))]) hx hb dX5_whoKeepsWishes_1 rfl hl (by decide) rfl (fun ls hl => ?_)
  refine lv_iconst (v := 0) hx hb dX5_whoKeepsWishes_2 (by decide) ?_
  refine lv_istore_n (lv' := [(2, .int 0), (1, .int 0), (0, .ref (zq Z 0))]) hx hb dX5_whoKeepsWishes_3 rfl hl (by decide) rfl (fun ls hl => ?_)
  obtain ⟨n, h⟩ := h
  exact B4 n σ 0 0 _ _ _ h hP hS (lv_sub hl [2, 1, 0] rfl)
theorem hd_X5_count : yX5_count.cls = RX5 ∧ yX5_count.cls ≠ "java/lang/invoke/MethodHandle" ∧ yX5_count.cls ≠ "java/lang/invoke/VarHandle" ∧ (parseMethodDescriptor yX5_count.desc).map (fun d => d.parameters.length) = some 1 := by decide +kernel
set_option maxHeartbeats 4000000 in
set_option maxRecDepth 100000 in
theorem mt_X5_count (l : Launch) {Z : ZW} (hZ : isC Z) (σ : SS) (sz : Nat) (x1 : Int32) (K : SS → Int32 → Prop) (h : wp_X5_count σ x1 K) : mtZ l yX5_count wsX5_count (rm9 4 98) Z [.ref (zq Z 0), .int x1] σ sz (qcI Z K sz) := by
  refine Met.ofW (cc := cX5_count) (maxL := 2) (ret := (some .int)) (by decide) rfl ?_
  intro p e s m args below meth c s₁ B hml hv
  obtain ⟨hargs, hsz, hP, hE1, hE2, hE3⟩ := hv
  subst hsz
  have hE : envZ Z s := ⟨hE1, hE2, hE3⟩
  have hx := B.exec
  have hb := B.bytes
  have hr := B.returns
  have hlocks := B.notSynchronized
  have hts := atoms_spec (ws := wsX5_count) B.pre
  have hown : s.vm.findClass RX5 = some m.cls := findClass_of_methodNamed B.named
  have hS : SZ Z s s.heap [] := va_S.rf
  obtain ⟨ls, hef, hl⟩ := z_entry m hargs (n := 2) (Nat.le_of_ble_eq_true rfl)
  rw [hef]
  have hl : lv_has ls 2 [(0, .ref (zq Z 0)), (1, .int x1)] := hl
  have in0 : ∀ w ∈ u_ws RX0 TX0 10, w ∈ wsX5_count := by decide +kernel
  have in5 : ∀ w ∈ u_ws RX5 TX5 15, w ∈ wsX5_count := by decide +kernel
  have lk103 := hts (.fieldLink RX5 103 "BeatDoubts$Arrivals" "newsCount" "I") (by decide +kernel)
  have lk109 := hts (.fieldLink RX5 109 "BeatDoubts$Arrivals" "timeOfNews" "[I") (by decide +kernel)
  have lk140 := hts (.fieldLink RX5 140 "BeatDoubts" "watcherCount" "I") (by decide +kernel)
  have lk282 := hts (.fieldLink RX5 282 "BeatDoubts" "latestFinding" "I") (by decide +kernel)
  have lk40 := hts (.fieldLink RX5 40 "BeatDoubts" "arrivals" "LBeatDoubts$Arrivals;") (by decide +kernel)
  have lk61 := hts (.fieldLink RX5 61 "BeatDoubts" "beatCount" "I") (by decide +kernel)
  unfold wp_X5_count at h
  refine lv_aload_n hx hb dX5_count_0 rfl (lv_at hl 0 rfl) ?_
  refine zc_VV (As := []) (rest := []) ⟨hx, hb, hml, hown, hts⟩ (cwV 0 hts gX5_count_X5_followArrivals rfl rfl rfl hd_X5_followArrivals ⟨Nat.le_of_ble_eq_true rfl, Nat.le_of_ble_eq_true rfl⟩) (mt_X5_followArrivals l hZ σ _  _ h) (rc_5 hZ hE hP kd0) hE hP hS rfl hl.1 rfl (Nat.le_of_ble_eq_true rfl) dX5_count_1 ⟨Nat.zero_le _, Nat.zero_le _⟩ (fun σ1 H locs h hP hS => ?_)
  refine lv_iload_n hx hb dX5_count_4 rfl (lv_at hl 1 rfl) ?_
  by_cases hc0 : x1 = 0
  · have h := h.1 hc0
    refine lv_tableIn (tgt := 56) hx hb dX5_count_5 (by rw [hc0] <;> decide) (by rw [hc0] <;> decide) (by rw [hc0] <;> rfl) (by decide) ?_
    refine lv_aload_n hx hb dX5_count_56 rfl (lv_at hl 0 rfl) ?_
    refine fg_5_1 hZ hx hb hts in5 hown hE hP kd0 lk61 dX5_count_57 ?_
    exact zr_I hx hb hr hlocks hP hS h dX5_count_60
  by_cases hc1 : x1 = 1
  · have h := h.2.1 hc1
    refine lv_tableIn (tgt := 61) hx hb dX5_count_5 (by rw [hc1] <;> decide) (by rw [hc1] <;> decide) (by rw [hc1] <;> rfl) (by decide) ?_
    refine lv_aload_n hx hb dX5_count_61 rfl (lv_at hl 0 rfl) ?_
    refine zc_VI (As := []) (rest := []) ⟨hx, hb, hml, hown, hts⟩ (cwV 0 hts gX5_count_X5_countLost rfl rfl rfl hd_X5_countLost ⟨Nat.le_of_ble_eq_true rfl, Nat.le_of_ble_eq_true rfl⟩) (mt_X5_countLost l hZ σ1 _  _ h) (rc_5 hZ hE hP kd0) hE hP hS rfl hl.1 rfl (Nat.le_of_ble_eq_true rfl) dX5_count_62 ⟨Nat.zero_le _, Nat.zero_le _⟩ (fun r62 σ62 H locs h hP hS => ?_)
    exact zr_I hx hb hr hlocks hP hS h dX5_count_65
  by_cases hc2 : x1 = 2
  · have h := h.2.2.1 hc2
    refine lv_tableIn (tgt := 66) hx hb dX5_count_5 (by rw [hc2] <;> decide) (by rw [hc2] <;> decide) (by rw [hc2] <;> rfl) (by decide) ?_
    refine lv_aload_n hx hb dX5_count_66 rfl (lv_at hl 0 rfl) ?_
    refine fg_5_9 hZ hx hb hts in5 hown hE hP kd0 lk40 dX5_count_67 ?_
    refine fg_0_7 hZ hx hb hts in0 hown hE hP kr_5_9 lk103 dX5_count_70 ?_
    exact zr_I hx hb hr hlocks hP hS h dX5_count_73
  by_cases hc3 : x1 = 3
  · have h := h.2.2.2.1 hc3
    refine lv_tableIn (tgt := 74) hx hb dX5_count_5 (by rw [hc3] <;> decide) (by rw [hc3] <;> decide) (by rw [hc3] <;> rfl) (by decide) ?_
    refine lv_aload_n hx hb dX5_count_74 rfl (lv_at hl 0 rfl) ?_
    refine fg_5_6 hZ hx hb hts in5 hown hE hP kd0 lk140 dX5_count_75 ?_
    exact zr_I hx hb hr hlocks hP hS h dX5_count_78
  by_cases hc4 : x1 = 4
  · have h := h.2.2.2.2.1 hc4
    refine lv_tableIn (tgt := 79) hx hb dX5_count_5 (by rw [hc4] <;> decide) (by rw [hc4] <;> decide) (by rw [hc4] <;> rfl) (by decide) ?_
    refine lv_aload_n hx hb dX5_count_79 rfl (lv_at hl 0 rfl) ?_
    refine zc_VI (As := []) (rest := []) ⟨hx, hb, hml, hown, hts⟩ (cwV 0 hts gX5_count_X5_countMistakes rfl rfl rfl hd_X5_countMistakes ⟨Nat.le_of_ble_eq_true rfl, Nat.le_of_ble_eq_true rfl⟩) (mt_X5_countMistakes l hZ σ1 _  _ h) (rc_5 hZ hE hP kd0) hE hP hS rfl hl.1 rfl (Nat.le_of_ble_eq_true rfl) dX5_count_80 ⟨Nat.zero_le _, Nat.zero_le _⟩ (fun r80 σ80 H locs h hP hS => ?_)
    exact zr_I hx hb hr hlocks hP hS h dX5_count_83
  by_cases hc5 : x1 = 5
  · have h := h.2.2.2.2.2.1 hc5
    refine lv_tableIn (tgt := 84) hx hb dX5_count_5 (by rw [hc5] <;> decide) (by rw [hc5] <;> decide) (by rw [hc5] <;> rfl) (by decide) ?_
    refine lv_aload_n hx hb dX5_count_84 rfl (lv_at hl 0 rfl) ?_
    refine zc_VI (As := []) (rest := []) ⟨hx, hb, hml, hown, hts⟩ (cwV 0 hts gX5_count_X5_whoKeepsWishes rfl rfl rfl hd_X5_whoKeepsWishes ⟨Nat.le_of_ble_eq_true rfl, Nat.le_of_ble_eq_true rfl⟩) (mt_X5_whoKeepsWishes l hZ σ1 _  _ h) (rc_5 hZ hE hP kd0) hE hP hS rfl hl.1 rfl (Nat.le_of_ble_eq_true rfl) dX5_count_85 ⟨Nat.zero_le _, Nat.zero_le _⟩ (fun r85 σ85 H locs h hP hS => ?_)
    exact zr_I hx hb hr hlocks hP hS h dX5_count_88
  by_cases hc6 : x1 = 6
  · have h := h.2.2.2.2.2.2.1 hc6
    refine lv_tableIn (tgt := 89) hx hb dX5_count_5 (by rw [hc6] <;> decide) (by rw [hc6] <;> decide) (by rw [hc6] <;> rfl) (by decide) ?_
    refine lv_aload_n hx hb dX5_count_89 rfl (lv_at hl 0 rfl) ?_
    refine fg_5_9 hZ hx hb hts in5 hown hE hP kd0 lk40 dX5_count_90 ?_
    refine fg_0_7 hZ hx hb hts in0 hown hE hP kr_5_9 lk103 dX5_count_93 ?_
    refine lv_if_ne (tgt := 103) hx hb dX5_count_96 (by decide) (fun hc => ?_) (fun hc => ?_)
    · have h := h.1 hc
      refine lv_aload_n hx hb dX5_count_103 rfl (lv_at hl 0 rfl) ?_
      refine fg_5_9 hZ hx hb hts in5 hown hE hP kd0 lk40 dX5_count_104 ?_
      refine fg_0_3 hZ hx hb hts in0 hown hE hP kr_5_9 lk109 dX5_count_107 ?_
      refine lv_aload_n hx hb dX5_count_110 rfl (lv_at hl 0 rfl) ?_
      refine fg_5_9 hZ hx hb hts in5 hown hE hP kd0 lk40 dX5_count_111 ?_
      refine fg_0_7 hZ hx hb hts in0 hown hE hP kr_5_9 lk103 dX5_count_114 ?_
      refine lv_iconst (v := 1) hx hb dX5_count_117 (by decide) ?_
      refine lv_isub hx hb dX5_count_118 ?_
      obtain ⟨hin, h⟩ := h
      refine al_10 hZ hx hb hE hP (kr_0_3 kr_5_9) hin dX5_count_119 ?_
      exact zr_I hx hb hr hlocks hP hS h dX5_count_120
    · have h := h.2 hc
      refine lv_iconst (v := (-1)) hx hb dX5_count_99 (by decide) ?_
      refine lv_goto (tgt := 120) hx hb dX5_count_100 (by decide) ?_
      exact zr_I hx hb hr hlocks hP hS h dX5_count_120
  by_cases hc7 : x1 = 7
  · have h := h.2.2.2.2.2.2.2.1 hc7
    refine lv_tableIn (tgt := 121) hx hb dX5_count_5 (by rw [hc7] <;> decide) (by rw [hc7] <;> decide) (by rw [hc7] <;> rfl) (by decide) ?_
    refine lv_aload_n hx hb dX5_count_121 rfl (lv_at hl 0 rfl) ?_
    refine zc_VI (As := []) (rest := []) ⟨hx, hb, hml, hown, hts⟩ (cwV 0 hts gX5_count_X5_countDoubtsForGood rfl rfl rfl hd_X5_countDoubtsForGood ⟨Nat.le_of_ble_eq_true rfl, Nat.le_of_ble_eq_true rfl⟩) (mt_X5_countDoubtsForGood l hZ σ1 _  _ h) (rc_5 hZ hE hP kd0) hE hP hS rfl hl.1 rfl (Nat.le_of_ble_eq_true rfl) dX5_count_122 ⟨Nat.zero_le _, Nat.zero_le _⟩ (fun r122 σ122 H locs h hP hS => ?_)
    exact zr_I hx hb hr hlocks hP hS h dX5_count_125
  by_cases hc8 : x1 = 8
  · have h := h.2.2.2.2.2.2.2.2.1 hc8
    refine lv_tableIn (tgt := 126) hx hb dX5_count_5 (by rw [hc8] <;> decide) (by rw [hc8] <;> decide) (by rw [hc8] <;> rfl) (by decide) ?_
    refine lv_aload_n hx hb dX5_count_126 rfl (lv_at hl 0 rfl) ?_
    refine fg_5_8 hZ hx hb hts in5 hown hE hP kd0 lk282 dX5_count_127 ?_
    exact zr_I hx hb hr hlocks hP hS h dX5_count_130
  have h := h.2.2.2.2.2.2.2.2.2 hc0 hc1 hc2 hc3 hc4 hc5 hc6 hc7 hc8
  refine lv_tableOut (tgt := 131) hx hb dX5_count_5 (tsw9 hc0 hc1 hc2 hc3 hc4 hc5 hc6 hc7 hc8) (by decide) ?_
  refine lv_bipush (v := (-2)) hx hb dX5_count_131 (by decide) ?_
  exact zr_I hx hb hr hlocks hP hS h dX5_count_133
theorem hd_X5_mix : yX5_mix.cls ≠ "java/lang/invoke/MethodHandle" ∧ yX5_mix.cls ≠ "java/lang/invoke/VarHandle" ∧ (parseMethodDescriptor yX5_mix.desc).map (fun d => d.parameters.length) = some 2 := by decide +kernel
set_option maxHeartbeats 4000000 in
set_option maxRecDepth 100000 in
theorem mt_X5_mix (l : Launch) {Z : ZW} (hZ : isC Z) (σ : SS) (sz : Nat) (x0 : Int64) (x2 : Int64) (K : SS → Int64 → Prop) (h : wp_X5_mix σ x0 x2 K) : mtZ l yX5_mix wsX5_mix (rm9 0 0) Z [.long x0, .long x2] σ sz (qcL Z K sz) := by
  refine Met.ofW (cc := cX5_mix) (maxL := 4) (ret := (some .long)) (by decide) rfl ?_
  intro p e s m args below meth c s₁ B hml hv
  obtain ⟨hargs, hsz, hP, hE1, hE2, hE3⟩ := hv
  subst hsz
  have hE : envZ Z s := ⟨hE1, hE2, hE3⟩
  have hx := B.exec
  have hb := B.bytes
  have hr := B.returns
  have hlocks := B.notSynchronized
  have hts := atoms_spec (ws := wsX5_mix) B.pre
  have hown : s.vm.findClass RX5 = some m.cls := findClass_of_methodNamed B.named
  have hS : SZ Z s s.heap [] := va_S.rf
  obtain ⟨ls, hef, hl⟩ := z_entry m hargs (n := 4) (Nat.le_of_ble_eq_true rfl)
  rw [hef]
  have hl : lv_has ls 4 [(0, .long x0), (2, .long x2)] := hl
  have lk335 := hts (.constantLong RX5 335 (31)) (by decide +kernel)
  unfold wp_X5_mix at h
  refine lv_ldc2 (v := 31) hx hb hown lk335 dX5_mix_0 ?_
  refine lv_lload_n hx hb dX5_mix_3 rfl (lv_at hl 0 rfl) ?_
  refine lv_lmul hx hb dX5_mix_4 ?_
  refine lv_lload_n hx hb dX5_mix_5 rfl (lv_at hl 1 rfl) ?_
  refine lv_ladd hx hb dX5_mix_6 ?_
  exact zr_L hx hb hr hlocks hP hS h dX5_mix_7
theorem hd_X5_mixBeats : yX5_mixBeats.cls = RX5 ∧ yX5_mixBeats.cls ≠ "java/lang/invoke/MethodHandle" ∧ yX5_mixBeats.cls ≠ "java/lang/invoke/VarHandle" ∧ (parseMethodDescriptor yX5_mixBeats.desc).map (fun d => d.parameters.length) = some 1 := by decide +kernel
set_option maxHeartbeats 4000000 in
set_option maxRecDepth 100000 in
theorem mt_X5_mixBeats (l : Launch) {Z : ZW} (hZ : isC Z) (σ : SS) (sz : Nat) (x1 : Int64) (K : SS → Int64 → Prop) (h : wp_X5_mixBeats σ x1 K) : mtZ l yX5_mixBeats wsX5_mixBeats (rm9 5 121) Z [.ref (zq Z 0), .long x1] σ sz (qcL Z K sz) := by
  refine Met.ofW (cc := cX5_mixBeats) (maxL := 7) (ret := (some .long)) (by decide) rfl ?_
  intro p e s m args below meth c s₁ B hml hv
  obtain ⟨hargs, hsz, hP, hE1, hE2, hE3⟩ := hv
  subst hsz
  have hE : envZ Z s := ⟨hE1, hE2, hE3⟩
  have hx := B.exec
  have hb := B.bytes
  have hr := B.returns
  have hlocks := B.notSynchronized
  have hts := atoms_spec (ws := wsX5_mixBeats) B.pre
  have hown : s.vm.findClass RX5 = some m.cls := findClass_of_methodNamed B.named
  have hS : SZ Z s s.heap [] := va_S.rf
  obtain ⟨ls, hef, hl⟩ := z_entry m hargs (n := 7) (Nat.le_of_ble_eq_true rfl)
  rw [hef]
  have hl : lv_has ls 7 [(0, .ref (zq Z 0)), (1, .long x1)] := hl
  have in5 : ∀ w ∈ u_ws RX5 TX5 15, w ∈ wsX5_mixBeats := by decide +kernel
  have lk61 := hts (.fieldLink RX5 61 "BeatDoubts" "beatCount" "I") (by decide +kernel)
  have B5 : ∀ (n : Nat) (σ : SS) (x3 : Int64) (x5 : Int32) (H : Heap) (locs : List Loc) (ls : Array Slot), fx3 (lb_X5_mixBeats_5 K) n σ x3 x5 → PZ Z σ H → SZ Z s H locs → lv_has ls 7 [(0, .ref (zq Z 0)), (3, .long x3), (5, .int x5)] → W p l e (headSpec wsX5_mixBeats (rm9 5 121)).room s m args below meth c H locs 0 0 (MQ below (qcL Z K s.heap.size) args s 0 0 (aZ Z s.heap.size)) (F0 m 5 ls []) := by
    intro n5
    induction n5 with
    | zero => intro σ x3 x5 H locs ls h; exact h.elim
    | succ n5 ih5 =>
      have B17 : ∀ (n : Nat) (σ : SS) (x3 : Int64) (x5 : Int32) (x6 : Int32) (H : Heap) (locs : List Loc) (ls : Array Slot), fx4 (lb_X5_mixBeats_17 K (fx3 (lb_X5_mixBeats_5 K) n5)) n σ x3 x5 x6 → PZ Z σ H → SZ Z s H locs → lv_has ls 7 [(0, .ref (zq Z 0)), (3, .long x3), (5, .int x5), (6, .int x6)] → W p l e (headSpec wsX5_mixBeats (rm9 5 121)).room s m args below meth c H locs 0 0 (MQ below (qcL Z K s.heap.size) args s 0 0 (aZ Z s.heap.size)) (F0 m 17 ls []) := by
        intro n17
        induction n17 with
        | zero => intro σ x3 x5 x6 H locs ls h; exact h.elim
        | succ n17 ih17 =>
          intro σ x3 x5 x6 H locs ls h hP hS hl
          have h : lb_X5_mixBeats_17 K (fx3 (lb_X5_mixBeats_5 K) n5) (fx4 (lb_X5_mixBeats_17 K (fx3 (lb_X5_mixBeats_5 K) n5)) n17) σ x3 x5 x6 := h
          unfold lb_X5_mixBeats_17 at h
          refine lv_iload hx hb dX5_mixBeats_17 (lv_at hl 3 rfl) ?_
          refine lv_iconst (v := 2) hx hb dX5_mixBeats_19 (by decide) ?_
          refine lv_icmp_gt (tgt := 43) hx hb dX5_mixBeats_20 (by decide) (fun hc => ?_) (fun hc => ?_)
          · have h := h.1 hc
            refine lv_iinc (v := (x5 + 1)) (lv' := [(5, .int (x5 + 1)), (0, .ref (zq Z 0)), (3, .long x3), (6, .int x6)]) hx hb dX5_mixBeats_43 hl (k := 2) rfl rfl (by decide) rfl (fun ls hl => ?_)
            refine lv_goto (tgt := 5) hx hb dX5_mixBeats_46 (by decide) ?_
            exact ih5 σ x3 (x5 + 1) _ _ _ h hP hS (lv_sub hl [1, 2, 0] rfl)
          · have h := h.2 hc
            refine lv_lload_n hx hb dX5_mixBeats_23 rfl (lv_at hl 1 rfl) ?_
            refine lv_aload_n hx hb dX5_mixBeats_24 rfl (lv_at hl 0 rfl) ?_
            refine lv_iload hx hb dX5_mixBeats_25 (lv_at hl 2 rfl) ?_
            refine lv_iload hx hb dX5_mixBeats_27 (lv_at hl 3 rfl) ?_
            refine zc_VI (As := [.int x5, .int x6]) (rest := [.long x3]) ⟨hx, hb, hml, hown, hts⟩ (cwV 2 hts gX5_mixBeats_X5_came rfl rfl rfl hd_X5_came ⟨Nat.le_of_ble_eq_true rfl, Nat.le_of_ble_eq_true rfl⟩) (mt_X5_came l hZ σ _ x5 x6 _ h) (rc_5 hZ hE hP kd0) hE hP hS rfl hl.1 rfl (Nat.le_of_ble_eq_true rfl) dX5_mixBeats_29 ⟨Nat.zero_le _, Nat.zero_le _⟩ (fun r29 σ29 H locs h hP hS => ?_)
            refine lv_i2l hx hb dX5_mixBeats_32 rfl ?_
            refine zc_SL (As := [.long x3, .long r29.toInt64]) (rest := []) ⟨hx, hb, hml, hown, hts⟩ (va_cwS 2 hts gX5_mixBeats_X5_mix rfl rfl rfl hd_X5_mix ⟨Nat.le_of_ble_eq_true rfl, Nat.le_of_ble_eq_true rfl⟩) (mt_X5_mix l hZ σ29 _ x3 r29.toInt64 _ h) hE hP hS rfl hl.1 rfl (Nat.le_of_ble_eq_true rfl) dX5_mixBeats_33 ⟨Nat.zero_le _, Nat.zero_le _⟩ (fun r33 σ33 H locs h hP hS => ?_)
            refine lv_lstore_n (lv' := [(3, .long r33), (0, .ref (zq Z 0)), (5, .int x5), (6, .int x6)]) hx hb dX5_mixBeats_36 rfl hl (by decide) rfl (fun ls hl => ?_)
            refine lv_iinc (v := (x6 + 1)) (lv' := [(6, .int (x6 + 1)), (3, .long r33), (0, .ref (zq Z 0)), (5, .int x5)]) hx hb dX5_mixBeats_37 hl (k := 3) rfl rfl (by decide) rfl (fun ls hl => ?_)
            refine lv_goto (tgt := 17) hx hb dX5_mixBeats_40 (by decide) ?_
            exact ih17 σ33 r33 x5 (x6 + 1) _ _ _ h hP hS (lv_sub hl [2, 1, 3, 0] rfl)
      intro σ x3 x5 H locs ls h hP hS hl
      have h : lb_X5_mixBeats_5 K (fx3 (lb_X5_mixBeats_5 K) n5) σ x3 x5 := h
      unfold lb_X5_mixBeats_5 at h
      refine lv_iload hx hb dX5_mixBeats_5 (lv_at hl 2 rfl) ?_
      refine lv_aload_n hx hb dX5_mixBeats_7 rfl (lv_at hl 0 rfl) ?_
      refine fg_5_1 hZ hx hb hts in5 hown hE hP kd0 lk61 dX5_mixBeats_8 ?_
      refine lv_icmp_ge (tgt := 49) hx hb dX5_mixBeats_11 (by decide) (fun hc => ?_) (fun hc => ?_)
      · have h := h.1 hc
        refine lv_lload_n hx hb dX5_mixBeats_49 rfl (lv_at hl 1 rfl) ?_
        exact zr_L hx hb hr hlocks hP hS h dX5_mixBeats_50
      · have h := h.2 hc
        refine lv_iconst (v := 0) hx hb dX5_mixBeats_14 (by decide) ?_
        refine lv_istore (lv' := [(6, .int 0), (0, .ref (zq Z 0)), (3, .long x3), (5, .int x5)]) hx hb dX5_mixBeats_15 hl (by decide) rfl (fun ls hl => ?_)
        obtain ⟨n, h⟩ := h
        exact B17 n σ x3 x5 0 _ _ _ h hP hS (lv_sub hl [1, 2, 3, 0] rfl)
  unfold wp_X5_mixBeats at h
  refine lv_lload_n hx hb dX5_mixBeats_0 rfl (lv_at hl 1 rfl) ?_
  refine lv_lstore_n (lv' := [(3, .long x1), (0, .ref (zq Z 0)), (1, .long x1)]) hx hb dX5_mixBeats_1 rfl hl (by decide) rfl (fun ls hl => ?_)
  refine lv_iconst (v := 0) hx hb dX5_mixBeats_2 (by decide) ?_
  refine lv_istore (lv' := [(5, .int 0), (3, .long x1), (0, .ref (zq Z 0)), (1, .long x1)]) hx hb dX5_mixBeats_3 hl (by decide) rfl (fun ls hl => ?_)
  obtain ⟨n, h⟩ := h
  exact B5 n σ x1 0 _ _ _ h hP hS (lv_sub hl [2, 1, 0] rfl)
theorem hd_X5_mixNews : yX5_mixNews.cls = RX5 ∧ yX5_mixNews.cls ≠ "java/lang/invoke/MethodHandle" ∧ yX5_mixNews.cls ≠ "java/lang/invoke/VarHandle" ∧ (parseMethodDescriptor yX5_mixNews.desc).map (fun d => d.parameters.length) = some 1 := by decide +kernel
set_option maxHeartbeats 4000000 in
set_option maxRecDepth 100000 in
theorem mt_X5_mixNews (l : Launch) {Z : ZW} (hZ : isC Z) (σ : SS) (sz : Nat) (x1 : Int64) (K : SS → Int64 → Prop) (h : wp_X5_mixNews σ x1 K) : mtZ l yX5_mixNews wsX5_mixNews (rm9 5 120) Z [.ref (zq Z 0), .long x1] σ sz (qcL Z K sz) := by
  refine Met.ofW (cc := cX5_mixNews) (maxL := 7) (ret := (some .long)) (by decide) rfl ?_
  intro p e s m args below meth c s₁ B hml hv
  obtain ⟨hargs, hsz, hP, hE1, hE2, hE3⟩ := hv
  subst hsz
  have hE : envZ Z s := ⟨hE1, hE2, hE3⟩
  have hx := B.exec
  have hb := B.bytes
  have hr := B.returns
  have hlocks := B.notSynchronized
  have hts := atoms_spec (ws := wsX5_mixNews) B.pre
  have hown : s.vm.findClass RX5 = some m.cls := findClass_of_methodNamed B.named
  have hS : SZ Z s s.heap [] := va_S.rf
  obtain ⟨ls, hef, hl⟩ := z_entry m hargs (n := 7) (Nat.le_of_ble_eq_true rfl)
  rw [hef]
  have hl : lv_has ls 7 [(0, .ref (zq Z 0)), (1, .long x1)] := hl
  have in0 : ∀ w ∈ u_ws RX0 TX0 10, w ∈ wsX5_mixNews := by decide +kernel
  have in5 : ∀ w ∈ u_ws RX5 TX5 15, w ∈ wsX5_mixNews := by decide +kernel
  have lk103 := hts (.fieldLink RX5 103 "BeatDoubts$Arrivals" "newsCount" "I") (by decide +kernel)
  have lk40 := hts (.fieldLink RX5 40 "BeatDoubts" "arrivals" "LBeatDoubts$Arrivals;") (by decide +kernel)
  have B5 : ∀ (n : Nat) (σ : SS) (x3 : Int64) (x5 : Int32) (H : Heap) (locs : List Loc) (ls : Array Slot), fx3 (lb_X5_mixNews_5 K) n σ x3 x5 → PZ Z σ H → SZ Z s H locs → lv_has ls 7 [(0, .ref (zq Z 0)), (3, .long x3), (5, .int x5)] → W p l e (headSpec wsX5_mixNews (rm9 5 120)).room s m args below meth c H locs 0 0 (MQ below (qcL Z K s.heap.size) args s 0 0 (aZ Z s.heap.size)) (F0 m 5 ls []) := by
    intro n5
    induction n5 with
    | zero => intro σ x3 x5 H locs ls h; exact h.elim
    | succ n5 ih5 =>
      have B46 : ∀ (σ : SS) (x3 : Int64) (x5 : Int32) (H : Heap) (locs : List Loc) (ls : Array Slot), bl_X5_mixNews_46 K (fx3 (lb_X5_mixNews_5 K) n5) σ x3 x5 → PZ Z σ H → SZ Z s H locs → lv_has ls 7 [(0, .ref (zq Z 0)), (3, .long x3), (5, .int x5)] → W p l e (headSpec wsX5_mixNews (rm9 5 120)).room s m args below meth c H locs 0 0 (MQ below (qcL Z K s.heap.size) args s 0 0 (aZ Z s.heap.size)) (F0 m 46 ls []) := by
        intro σ x3 x5 H locs ls h hP hS hl
        unfold bl_X5_mixNews_46 at h
        refine lv_lload_n hx hb dX5_mixNews_46 rfl (lv_at hl 1 rfl) ?_
        refine lv_aload_n hx hb dX5_mixNews_47 rfl (lv_at hl 0 rfl) ?_
        refine lv_iload hx hb dX5_mixNews_48 (lv_at hl 2 rfl) ?_
        refine lv_iconst (v := 0) hx hb dX5_mixNews_50 (by decide) ?_
        refine zc_VL (As := [.int x5, .int 0]) (rest := [.long x3]) ⟨hx, hb, hml, hown, hts⟩ (cwV 2 hts gX5_mixNews_X5_expected rfl rfl rfl hd_X5_expected ⟨Nat.le_of_ble_eq_true rfl, Nat.le_of_ble_eq_true rfl⟩) (mt_X5_expected l hZ σ _ x5 0 _ h) (rc_5 hZ hE hP kd0) hE hP hS rfl hl.1 rfl (Nat.le_of_ble_eq_true rfl) dX5_mixNews_51 ⟨Nat.zero_le _, Nat.zero_le _⟩ (fun r51 σ51 H locs h hP hS => ?_)
        refine zc_SL (As := [.long x3, .long r51]) (rest := []) ⟨hx, hb, hml, hown, hts⟩ (va_cwS 2 hts gX5_mixNews_X5_mix rfl rfl rfl hd_X5_mix ⟨Nat.le_of_ble_eq_true rfl, Nat.le_of_ble_eq_true rfl⟩) (mt_X5_mix l hZ σ51 _ x3 r51 _ h) hE hP hS rfl hl.1 rfl (Nat.le_of_ble_eq_true rfl) dX5_mixNews_54 ⟨Nat.zero_le _, Nat.zero_le _⟩ (fun r54 σ54 H locs h hP hS => ?_)
        refine lv_lstore_n (lv' := [(3, .long r54), (0, .ref (zq Z 0)), (5, .int x5)]) hx hb dX5_mixNews_57 rfl hl (by decide) rfl (fun ls hl => ?_)
        refine lv_lload_n hx hb dX5_mixNews_58 rfl (lv_at hl 0 rfl) ?_
        refine lv_aload_n hx hb dX5_mixNews_59 rfl (lv_at hl 1 rfl) ?_
        refine lv_iload hx hb dX5_mixNews_60 (lv_at hl 2 rfl) ?_
        refine lv_iconst (v := 1) hx hb dX5_mixNews_62 (by decide) ?_
        refine zc_VL (As := [.int x5, .int 1]) (rest := [.long r54]) ⟨hx, hb, hml, hown, hts⟩ (cwV 2 hts gX5_mixNews_X5_expected rfl rfl rfl hd_X5_expected ⟨Nat.le_of_ble_eq_true rfl, Nat.le_of_ble_eq_true rfl⟩) (mt_X5_expected l hZ σ54 _ x5 1 _ h) (rc_5 hZ hE hP kd0) hE hP hS rfl hl.1 rfl (Nat.le_of_ble_eq_true rfl) dX5_mixNews_63 ⟨Nat.zero_le _, Nat.zero_le _⟩ (fun r63 σ63 H locs h hP hS => ?_)
        refine zc_SL (As := [.long r54, .long r63]) (rest := []) ⟨hx, hb, hml, hown, hts⟩ (va_cwS 2 hts gX5_mixNews_X5_mix rfl rfl rfl hd_X5_mix ⟨Nat.le_of_ble_eq_true rfl, Nat.le_of_ble_eq_true rfl⟩) (mt_X5_mix l hZ σ63 _ r54 r63 _ h) hE hP hS rfl hl.1 rfl (Nat.le_of_ble_eq_true rfl) dX5_mixNews_66 ⟨Nat.zero_le _, Nat.zero_le _⟩ (fun r66 σ66 H locs h hP hS => ?_)
        refine lv_lstore_n (lv' := [(3, .long r66), (0, .ref (zq Z 0)), (5, .int x5)]) hx hb dX5_mixNews_69 rfl hl (by decide) rfl (fun ls hl => ?_)
        refine lv_iinc (v := (x5 + 1)) (lv' := [(5, .int (x5 + 1)), (3, .long r66), (0, .ref (zq Z 0))]) hx hb dX5_mixNews_70 hl (k := 2) rfl rfl (by decide) rfl (fun ls hl => ?_)
        refine lv_goto (tgt := 5) hx hb dX5_mixNews_73 (by decide) ?_
        exact ih5 σ66 r66 (x5 + 1) _ _ _ h hP hS (lv_sub hl [2, 1, 0] rfl)
      have B20 : ∀ (n : Nat) (σ : SS) (x3 : Int64) (x5 : Int32) (x6 : Int32) (H : Heap) (locs : List Loc) (ls : Array Slot), fx4 (lb_X5_mixNews_20 K (fx3 (lb_X5_mixNews_5 K) n5)) n σ x3 x5 x6 → PZ Z σ H → SZ Z s H locs → lv_has ls 7 [(0, .ref (zq Z 0)), (3, .long x3), (5, .int x5), (6, .int x6)] → W p l e (headSpec wsX5_mixNews (rm9 5 120)).room s m args below meth c H locs 0 0 (MQ below (qcL Z K s.heap.size) args s 0 0 (aZ Z s.heap.size)) (F0 m 20 ls []) := by
        intro n20
        induction n20 with
        | zero => intro σ x3 x5 x6 H locs ls h; exact h.elim
        | succ n20 ih20 =>
          intro σ x3 x5 x6 H locs ls h hP hS hl
          have h : lb_X5_mixNews_20 K (fx3 (lb_X5_mixNews_5 K) n5) (fx4 (lb_X5_mixNews_20 K (fx3 (lb_X5_mixNews_5 K) n5)) n20) σ x3 x5 x6 := h
          unfold lb_X5_mixNews_20 at h
          refine lv_iload hx hb dX5_mixNews_20 (lv_at hl 3 rfl) ?_
          refine lv_iconst (v := 2) hx hb dX5_mixNews_22 (by decide) ?_
          refine lv_icmp_gt (tgt := 46) hx hb dX5_mixNews_23 (by decide) (fun hc => ?_) (fun hc => ?_)
          · have h := h.1 hc
            exact B46 σ x3 x5 _ _ _ h hP hS (lv_sub hl [0, 1, 2] rfl)
          · have h := h.2 hc
            refine lv_lload_n hx hb dX5_mixNews_26 rfl (lv_at hl 1 rfl) ?_
            refine lv_aload_n hx hb dX5_mixNews_27 rfl (lv_at hl 0 rfl) ?_
            refine lv_iload hx hb dX5_mixNews_28 (lv_at hl 2 rfl) ?_
            refine lv_iload hx hb dX5_mixNews_30 (lv_at hl 3 rfl) ?_
            refine zc_VI (As := [.int x5, .int x6]) (rest := [.long x3]) ⟨hx, hb, hml, hown, hts⟩ (cwV 2 hts gX5_mixNews_X5_news rfl rfl rfl hd_X5_news ⟨Nat.le_of_ble_eq_true rfl, Nat.le_of_ble_eq_true rfl⟩) (mt_X5_news l hZ σ _ x5 x6 _ h) (rc_5 hZ hE hP kd0) hE hP hS rfl hl.1 rfl (Nat.le_of_ble_eq_true rfl) dX5_mixNews_32 ⟨Nat.zero_le _, Nat.zero_le _⟩ (fun r32 σ32 H locs h hP hS => ?_)
            refine lv_i2l hx hb dX5_mixNews_35 rfl ?_
            refine zc_SL (As := [.long x3, .long r32.toInt64]) (rest := []) ⟨hx, hb, hml, hown, hts⟩ (va_cwS 2 hts gX5_mixNews_X5_mix rfl rfl rfl hd_X5_mix ⟨Nat.le_of_ble_eq_true rfl, Nat.le_of_ble_eq_true rfl⟩) (mt_X5_mix l hZ σ32 _ x3 r32.toInt64 _ h) hE hP hS rfl hl.1 rfl (Nat.le_of_ble_eq_true rfl) dX5_mixNews_36 ⟨Nat.zero_le _, Nat.zero_le _⟩ (fun r36 σ36 H locs h hP hS => ?_)
            refine lv_lstore_n (lv' := [(3, .long r36), (0, .ref (zq Z 0)), (5, .int x5), (6, .int x6)]) hx hb dX5_mixNews_39 rfl hl (by decide) rfl (fun ls hl => ?_)
            refine lv_iinc (v := (x6 + 1)) (lv' := [(6, .int (x6 + 1)), (3, .long r36), (0, .ref (zq Z 0)), (5, .int x5)]) hx hb dX5_mixNews_40 hl (k := 3) rfl rfl (by decide) rfl (fun ls hl => ?_)
            refine lv_goto (tgt := 20) hx hb dX5_mixNews_43 (by decide) ?_
            exact ih20 σ36 r36 x5 (x6 + 1) _ _ _ h hP hS (lv_sub hl [2, 1, 3, 0] rfl)
      intro σ x3 x5 H locs ls h hP hS hl
      have h : lb_X5_mixNews_5 K (fx3 (lb_X5_mixNews_5 K) n5) σ x3 x5 := h
      unfold lb_X5_mixNews_5 at h
      refine lv_iload hx hb dX5_mixNews_5 (lv_at hl 2 rfl) ?_
      refine lv_aload_n hx hb dX5_mixNews_7 rfl (lv_at hl 0 rfl) ?_
      refine fg_5_9 hZ hx hb hts in5 hown hE hP kd0 lk40 dX5_mixNews_8 ?_
      refine fg_0_7 hZ hx hb hts in0 hown hE hP kr_5_9 lk103 dX5_mixNews_11 ?_
      refine lv_icmp_ge (tgt := 76) hx hb dX5_mixNews_14 (by decide) (fun hc => ?_) (fun hc => ?_)
      · have h := h.1 hc
        refine lv_lload_n hx hb dX5_mixNews_76 rfl (lv_at hl 1 rfl) ?_
        exact zr_L hx hb hr hlocks hP hS h dX5_mixNews_77
      · have h := h.2 hc
        refine lv_iconst (v := 0) hx hb dX5_mixNews_17 (by decide) ?_
        refine lv_istore (lv' := [(6, .int 0), (0, .ref (zq Z 0)), (3, .long x3), (5, .int x5)]) hx hb dX5_mixNews_18 hl (by decide) rfl (fun ls hl => ?_)
        obtain ⟨n, h⟩ := h
        exact B20 n σ x3 x5 0 _ _ _ h hP hS (lv_sub hl [1, 2, 3, 0] rfl)
  unfold wp_X5_mixNews at h
  refine lv_lload_n hx hb dX5_mixNews_0 rfl (lv_at hl 1 rfl) ?_
  refine lv_lstore_n (lv' := [(3, .long x1), (0, .ref (zq Z 0)), (1, .long x1)]) hx hb dX5_mixNews_1 rfl hl (by decide) rfl (fun ls hl => ?_)
  refine lv_iconst (v := 0) hx hb dX5_mixNews_2 (by decide) ?_
  refine lv_istore (lv' := [(5, .int 0), (3, .long x1), (0, .ref (zq Z 0)), (1, .long x1)]) hx hb dX5_mixNews_3 hl (by decide) rfl (fun ls hl => ?_)
  obtain ⟨n, h⟩ := h
  exact B5 n σ x1 0 _ _ _ h hP hS (lv_sub hl [2, 1, 0] rfl)
theorem hd_X5_mixWatcher : yX5_mixWatcher.cls = RX5 ∧ yX5_mixWatcher.cls ≠ "java/lang/invoke/MethodHandle" ∧ yX5_mixWatcher.cls ≠ "java/lang/invoke/VarHandle" ∧ (parseMethodDescriptor yX5_mixWatcher.desc).map (fun d => d.parameters.length) = some 2 := by decide +kernel
set_option maxHeartbeats 4000000 in
set_option maxRecDepth 100000 in
theorem mt_X5_mixWatcher (l : Launch) {Z : ZW} (hZ : isC Z) (σ : SS) (sz : Nat) (x1 : Int64) (x3 : Int32) (K : SS → Int64 → Prop) (h : wp_X5_mixWatcher σ x1 x3 K) : mtZ l yX5_mixWatcher wsX5_mixWatcher (rm9 5 123) Z [.ref (zq Z 0), .long x1, .int x3] σ sz (qcL Z K sz) := by
  refine Met.ofW (cc := cX5_mixWatcher) (maxL := 8) (ret := (some .long)) (by decide) rfl ?_
  intro p e s m args below meth c s₁ B hml hv
  obtain ⟨hargs, hsz, hP, hE1, hE2, hE3⟩ := hv
  subst hsz
  have hE : envZ Z s := ⟨hE1, hE2, hE3⟩
  have hx := B.exec
  have hb := B.bytes
  have hr := B.returns
  have hlocks := B.notSynchronized
  have hts := atoms_spec (ws := wsX5_mixWatcher) B.pre
  have hown : s.vm.findClass RX5 = some m.cls := findClass_of_methodNamed B.named
  have hS : SZ Z s s.heap [] := va_S.rf
  obtain ⟨ls, hef, hl⟩ := z_entry m hargs (n := 8) (Nat.le_of_ble_eq_true rfl)
  rw [hef]
  have hl : lv_has ls 8 [(0, .ref (zq Z 0)), (1, .long x1), (3, .int x3)] := hl
  have in0 : ∀ w ∈ u_ws RX0 TX0 10, w ∈ wsX5_mixWatcher := by decide +kernel
  have in1 : ∀ w ∈ u_ws RX1 TX1 8, w ∈ wsX5_mixWatcher := by decide +kernel
  have in4 : ∀ w ∈ u_ws RX4 TX4 5, w ∈ wsX5_mixWatcher := by decide +kernel
  have in5 : ∀ w ∈ u_ws RX5 TX5 15, w ∈ wsX5_mixWatcher := by decide +kernel
  have lk103 := hts (.fieldLink RX5 103 "BeatDoubts$Arrivals" "newsCount" "I") (by decide +kernel)
  have lk163 := hts (.fieldLink RX5 163 "BeatDoubts$Watcher" "diary" "LBeatDoubts$Diary;") (by decide +kernel)
  have lk166 := hts (.fieldLink RX5 166 "BeatDoubts$Diary" "mistakeCount" "I") (by decide +kernel)
  have lk25 := hts (.fieldLink RX5 25 "BeatDoubts" "watchers" "[LBeatDoubts$Watcher;") (by decide +kernel)
  have lk40 := hts (.fieldLink RX5 40 "BeatDoubts" "arrivals" "LBeatDoubts$Arrivals;") (by decide +kernel)
  have B121 : ∀ (n : Nat) (σ : SS) (x3 : Int32) (x4 : Int64) (x6 : Int32) (H : Heap) (locs : List Loc) (ls : Array Slot), fx4 (lb_X5_mixWatcher_121 K) n σ x3 x4 x6 → PZ Z σ H → SZ Z s H locs → lv_has ls 8 [(0, .ref (zq Z 0)), (3, .int x3), (4, .long x4), (6, .int x6)] → W p l e (headSpec wsX5_mixWatcher (rm9 5 123)).room s m args below meth c H locs 0 0 (MQ below (qcL Z K s.heap.size) args s 0 0 (aZ Z s.heap.size)) (F0 m 121 ls []) := by
    intro n121
    induction n121 with
    | zero => intro σ x3 x4 x6 H locs ls h; exact h.elim
    | succ n121 ih121 =>
      intro σ x3 x4 x6 H locs ls h hP hS hl
      have h : lb_X5_mixWatcher_121 K (fx4 (lb_X5_mixWatcher_121 K) n121) σ x3 x4 x6 := h
      unfold lb_X5_mixWatcher_121 at h
      refine lv_iload hx hb dX5_mixWatcher_121 (lv_at hl 3 rfl) ?_
      refine lv_aload_n hx hb dX5_mixWatcher_123 rfl (lv_at hl 0 rfl) ?_
      refine fg_5_9 hZ hx hb hts in5 hown hE hP kd0 lk40 dX5_mixWatcher_124 ?_
      refine fg_0_7 hZ hx hb hts in0 hown hE hP kr_5_9 lk103 dX5_mixWatcher_127 ?_
      refine lv_icmp_ge (tgt := 154) hx hb dX5_mixWatcher_130 (by decide) (fun hc => ?_) (fun hc => ?_)
      · have h := h.1 hc
        refine lv_lload hx hb dX5_mixWatcher_154 (lv_at hl 2 rfl) ?_
        exact zr_L hx hb hr hlocks hP hS h dX5_mixWatcher_156
      · have h := h.2 hc
        refine lv_lload hx hb dX5_mixWatcher_133 (lv_at hl 2 rfl) ?_
        refine lv_aload_n hx hb dX5_mixWatcher_135 rfl (lv_at hl 0 rfl) ?_
        refine lv_iload_n hx hb dX5_mixWatcher_136 rfl (lv_at hl 1 rfl) ?_
        refine lv_iload hx hb dX5_mixWatcher_137 (lv_at hl 3 rfl) ?_
        refine zc_VI (As := [.int x3, .int x6]) (rest := [.long x4]) ⟨hx, hb, hml, hown, hts⟩ (cwV 2 hts gX5_mixWatcher_X5_limit rfl rfl rfl hd_X5_limit ⟨Nat.le_of_ble_eq_true rfl, Nat.le_of_ble_eq_true rfl⟩) (mt_X5_limit l hZ σ _ x3 x6 _ h) (rc_5 hZ hE hP kd0) hE hP hS rfl hl.1 rfl (Nat.le_of_ble_eq_true rfl) dX5_mixWatcher_139 ⟨Nat.zero_le _, Nat.zero_le _⟩ (fun r139 σ139 H locs h hP hS => ?_)
        refine lv_i2l hx hb dX5_mixWatcher_142 rfl ?_
        refine zc_SL (As := [.long x4, .long r139.toInt64]) (rest := []) ⟨hx, hb, hml, hown, hts⟩ (va_cwS 2 hts gX5_mixWatcher_X5_mix rfl rfl rfl hd_X5_mix ⟨Nat.le_of_ble_eq_true rfl, Nat.le_of_ble_eq_true rfl⟩) (mt_X5_mix l hZ σ139 _ x4 r139.toInt64 _ h) hE hP hS rfl hl.1 rfl (Nat.le_of_ble_eq_true rfl) dX5_mixWatcher_143 ⟨Nat.zero_le _, Nat.zero_le _⟩ (fun r143 σ143 H locs h hP hS => ?_)
        refine lv_lstore (lv' := [(4, .long r143), (0, .ref (zq Z 0)), (3, .int x3), (6, .int x6)]) hx hb dX5_mixWatcher_146 hl (by decide) rfl (fun ls hl => ?_)
        refine lv_iinc (v := (x6 + 1)) (lv' := [(6, .int (x6 + 1)), (4, .long r143), (0, .ref (zq Z 0)), (3, .int x3)]) hx hb dX5_mixWatcher_148 hl (k := 3) rfl rfl (by decide) rfl (fun ls hl => ?_)
        refine lv_goto (tgt := 121) hx hb dX5_mixWatcher_151 (by decide) ?_
        exact ih121 σ143 x3 r143 (x6 + 1) _ _ _ h hP hS (lv_sub hl [2, 3, 1, 0] rfl)
  have B63 : ∀ (n : Nat) (σ : SS) (x3 : Int32) (x4 : Int64) (x6 : Int32) (H : Heap) (locs : List Loc) (ls : Array Slot), fx4 (lb_X5_mixWatcher_63 K) n σ x3 x4 x6 → PZ Z σ H → SZ Z s H locs → lv_has ls 8 [(0, .ref (zq Z 0)), (3, .int x3), (4, .long x4), (6, .int x6)] → W p l e (headSpec wsX5_mixWatcher (rm9 5 123)).room s m args below meth c H locs 0 0 (MQ below (qcL Z K s.heap.size) args s 0 0 (aZ Z s.heap.size)) (F0 m 63 ls []) := by
    intro n63
    induction n63 with
    | zero => intro σ x3 x4 x6 H locs ls h; exact h.elim
    | succ n63 ih63 =>
      have B83 : ∀ (n : Nat) (σ : SS) (x3 : Int32) (x4 : Int64) (x6 : Int32) (x7 : Int32) (H : Heap) (locs : List Loc) (ls : Array Slot), fx5 (lb_X5_mixWatcher_83 K (fx4 (lb_X5_mixWatcher_63 K) n63)) n σ x3 x4 x6 x7 → PZ Z σ H → SZ Z s H locs → lv_has ls 8 [(0, .ref (zq Z 0)), (3, .int x3), (4, .long x4), (6, .int x6), (7, .int x7)] → W p l e (headSpec wsX5_mixWatcher (rm9 5 123)).room s m args below meth c H locs 0 0 (MQ below (qcL Z K s.heap.size) args s 0 0 (aZ Z s.heap.size)) (F0 m 83 ls []) := by
        intro n83
        induction n83 with
        | zero => intro σ x3 x4 x6 x7 H locs ls h; exact h.elim
        | succ n83 ih83 =>
          intro σ x3 x4 x6 x7 H locs ls h hP hS hl
          have h : lb_X5_mixWatcher_83 K (fx4 (lb_X5_mixWatcher_63 K) n63) (fx5 (lb_X5_mixWatcher_83 K (fx4 (lb_X5_mixWatcher_63 K) n63)) n83) σ x3 x4 x6 x7 := h
          unfold lb_X5_mixWatcher_83 at h
          refine lv_iload hx hb dX5_mixWatcher_83 (lv_at hl 4 rfl) ?_
          refine lv_iconst (v := 2) hx hb dX5_mixWatcher_85 (by decide) ?_
          refine lv_icmp_gt (tgt := 112) hx hb dX5_mixWatcher_86 (by decide) (fun hc => ?_) (fun hc => ?_)
          · have h := h.1 hc
            refine lv_iinc (v := (x6 + 1)) (lv' := [(6, .int (x6 + 1)), (0, .ref (zq Z 0)), (3, .int x3), (4, .long x4), (7, .int x7)]) hx hb dX5_mixWatcher_112 hl (k := 3) rfl rfl (by decide) rfl (fun ls hl => ?_)
            refine lv_goto (tgt := 63) hx hb dX5_mixWatcher_115 (by decide) ?_
            exact ih63 σ x3 x4 (x6 + 1) _ _ _ h hP hS (lv_sub hl [1, 2, 3, 0] rfl)
          · have h := h.2 hc
            refine lv_lload hx hb dX5_mixWatcher_89 (lv_at hl 2 rfl) ?_
            refine lv_aload_n hx hb dX5_mixWatcher_91 rfl (lv_at hl 0 rfl) ?_
            refine lv_iload_n hx hb dX5_mixWatcher_92 rfl (lv_at hl 1 rfl) ?_
            refine lv_iload hx hb dX5_mixWatcher_93 (lv_at hl 3 rfl) ?_
            refine lv_iload hx hb dX5_mixWatcher_95 (lv_at hl 4 rfl) ?_
            refine zc_VI (As := [.int x3, .int x6, .int x7]) (rest := [.long x4]) ⟨hx, hb, hml, hown, hts⟩ (cwV 3 hts gX5_mixWatcher_X5_ledger rfl rfl rfl hd_X5_ledger ⟨Nat.le_of_ble_eq_true rfl, Nat.le_of_ble_eq_true rfl⟩) (mt_X5_ledger l hZ σ _ x3 x6 x7 _ h) (rc_5 hZ hE hP kd0) hE hP hS rfl hl.1 rfl (Nat.le_of_ble_eq_true rfl) dX5_mixWatcher_97 ⟨Nat.zero_le _, Nat.zero_le _⟩ (fun r97 σ97 H locs h hP hS => ?_)
            refine lv_i2l hx hb dX5_mixWatcher_100 rfl ?_
            refine zc_SL (As := [.long x4, .long r97.toInt64]) (rest := []) ⟨hx, hb, hml, hown, hts⟩ (va_cwS 2 hts gX5_mixWatcher_X5_mix rfl rfl rfl hd_X5_mix ⟨Nat.le_of_ble_eq_true rfl, Nat.le_of_ble_eq_true rfl⟩) (mt_X5_mix l hZ σ97 _ x4 r97.toInt64 _ h) hE hP hS rfl hl.1 rfl (Nat.le_of_ble_eq_true rfl) dX5_mixWatcher_101 ⟨Nat.zero_le _, Nat.zero_le _⟩ (fun r101 σ101 H locs h hP hS => ?_)
            refine lv_lstore (lv' := [(4, .long r101), (0, .ref (zq Z 0)), (3, .int x3), (6, .int x6), (7, .int x7)]) hx hb dX5_mixWatcher_104 hl (by decide) rfl (fun ls hl => ?_)
            refine lv_iinc (v := (x7 + 1)) (lv' := [(7, .int (x7 + 1)), (4, .long r101), (0, .ref (zq Z 0)), (3, .int x3), (6, .int x6)]) hx hb dX5_mixWatcher_106 hl (k := 4) rfl rfl (by decide) rfl (fun ls hl => ?_)
            refine lv_goto (tgt := 83) hx hb dX5_mixWatcher_109 (by decide) ?_
            exact ih83 σ101 x3 r101 x6 (x7 + 1) _ _ _ h hP hS (lv_sub hl [2, 3, 1, 4, 0] rfl)
      intro σ x3 x4 x6 H locs ls h hP hS hl
      have h : lb_X5_mixWatcher_63 K (fx4 (lb_X5_mixWatcher_63 K) n63) σ x3 x4 x6 := h
      unfold lb_X5_mixWatcher_63 at h
      refine lv_iload hx hb dX5_mixWatcher_63 (lv_at hl 3 rfl) ?_
      refine lv_aload_n hx hb dX5_mixWatcher_65 rfl (lv_at hl 0 rfl) ?_
      refine fg_5_5 hZ hx hb hts in5 hown hE hP kd0 lk25 dX5_mixWatcher_66 ?_
      refine lv_iload_n hx hb dX5_mixWatcher_69 rfl (lv_at hl 1 rfl) ?_
      obtain ⟨hin70, h⟩ := h
      refine al_16 hZ hx hb hE hP kr_5_5 hin70 dX5_mixWatcher_70 ?_
      refine fg_4_4 hZ hx hb hts in4 hown hE hP (kWi hin70) lk163 dX5_mixWatcher_71 ?_
      refine fg_1_3 hZ hx hb hts in1 hown hE hP (kr_4_4 (kWi hin70)) lk166 dX5_mixWatcher_74 ?_
      refine lv_icmp_ge (tgt := 118) hx hb dX5_mixWatcher_77 (by decide) (fun hc => ?_) (fun hc => ?_)
      · have h := h.1 hc
        refine lv_iconst (v := 0) hx hb dX5_mixWatcher_118 (by decide) ?_
        refine lv_istore (lv' := [(6, .int 0), (0, .ref (zq Z 0)), (3, .int x3), (4, .long x4)]) hx hb dX5_mixWatcher_119 hl (by decide) rfl (fun ls hl => ?_)
        obtain ⟨n, h⟩ := h
        exact B121 n σ x3 x4 0 _ _ _ h hP hS (lv_sub hl [1, 2, 3, 0] rfl)
      · have h := h.2 hc
        refine lv_iconst (v := 0) hx hb dX5_mixWatcher_80 (by decide) ?_
        refine lv_istore (lv' := [(7, .int 0), (0, .ref (zq Z 0)), (3, .int x3), (4, .long x4), (6, .int x6)]) hx hb dX5_mixWatcher_81 hl (by decide) rfl (fun ls hl => ?_)
        obtain ⟨n, h⟩ := h
        exact B83 n σ x3 x4 x6 0 _ _ _ h hP hS (lv_sub hl [1, 2, 3, 4, 0] rfl)
  have B34 : ∀ (σ : SS) (x3 : Int32) (x4 : Int64) (H : Heap) (locs : List Loc) (ls : Array Slot), bl_X5_mixWatcher_34 K σ x3 x4 → PZ Z σ H → SZ Z s H locs → lv_has ls 8 [(0, .ref (zq Z 0)), (3, .int x3), (4, .long x4)] → W p l e (headSpec wsX5_mixWatcher (rm9 5 123)).room s m args below meth c H locs 0 0 (MQ below (qcL Z K s.heap.size) args s 0 0 (aZ Z s.heap.size)) (F0 m 34 ls []) := by
    intro σ x3 x4 H locs ls h hP hS hl
    unfold bl_X5_mixWatcher_34 at h
    refine lv_lload hx hb dX5_mixWatcher_34 (lv_at hl 2 rfl) ?_
    refine lv_aload_n hx hb dX5_mixWatcher_36 rfl (lv_at hl 0 rfl) ?_
    refine lv_iload_n hx hb dX5_mixWatcher_37 rfl (lv_at hl 1 rfl) ?_
    refine zc_VI (As := [.int x3]) (rest := [.long x4]) ⟨hx, hb, hml, hown, hts⟩ (cwV 1 hts gX5_mixWatcher_X5_noticed rfl rfl rfl hd_X5_noticed ⟨Nat.le_of_ble_eq_true rfl, Nat.le_of_ble_eq_true rfl⟩) (mt_X5_noticed l hZ σ _ x3 _ h) (rc_5 hZ hE hP kd0) hE hP hS rfl hl.1 rfl (Nat.le_of_ble_eq_true rfl) dX5_mixWatcher_38 ⟨Nat.zero_le _, Nat.zero_le _⟩ (fun r38 σ38 H locs h hP hS => ?_)
    refine lv_i2l hx hb dX5_mixWatcher_41 rfl ?_
    refine zc_SL (As := [.long x4, .long r38.toInt64]) (rest := []) ⟨hx, hb, hml, hown, hts⟩ (va_cwS 2 hts gX5_mixWatcher_X5_mix rfl rfl rfl hd_X5_mix ⟨Nat.le_of_ble_eq_true rfl, Nat.le_of_ble_eq_true rfl⟩) (mt_X5_mix l hZ σ38 _ x4 r38.toInt64 _ h) hE hP hS rfl hl.1 rfl (Nat.le_of_ble_eq_true rfl) dX5_mixWatcher_42 ⟨Nat.zero_le _, Nat.zero_le _⟩ (fun r42 σ42 H locs h hP hS => ?_)
    refine lv_lstore (lv' := [(4, .long r42), (0, .ref (zq Z 0)), (3, .int x3)]) hx hb dX5_mixWatcher_45 hl (by decide) rfl (fun ls hl => ?_)
    refine lv_lload hx hb dX5_mixWatcher_47 (lv_at hl 0 rfl) ?_
    refine lv_aload_n hx hb dX5_mixWatcher_49 rfl (lv_at hl 1 rfl) ?_
    refine lv_iload_n hx hb dX5_mixWatcher_50 rfl (lv_at hl 2 rfl) ?_
    refine zc_VI (As := [.int x3]) (rest := [.long r42]) ⟨hx, hb, hml, hown, hts⟩ (cwV 1 hts gX5_mixWatcher_X5_longest rfl rfl rfl hd_X5_longest ⟨Nat.le_of_ble_eq_true rfl, Nat.le_of_ble_eq_true rfl⟩) (mt_X5_longest l hZ σ42 _ x3 _ h) (rc_5 hZ hE hP kd0) hE hP hS rfl hl.1 rfl (Nat.le_of_ble_eq_true rfl) dX5_mixWatcher_51 ⟨Nat.zero_le _, Nat.zero_le _⟩ (fun r51 σ51 H locs h hP hS => ?_)
    refine lv_i2l hx hb dX5_mixWatcher_54 rfl ?_
    refine zc_SL (As := [.long r42, .long r51.toInt64]) (rest := []) ⟨hx, hb, hml, hown, hts⟩ (va_cwS 2 hts gX5_mixWatcher_X5_mix rfl rfl rfl hd_X5_mix ⟨Nat.le_of_ble_eq_true rfl, Nat.le_of_ble_eq_true rfl⟩) (mt_X5_mix l hZ σ51 _ r42 r51.toInt64 _ h) hE hP hS rfl hl.1 rfl (Nat.le_of_ble_eq_true rfl) dX5_mixWatcher_55 ⟨Nat.zero_le _, Nat.zero_le _⟩ (fun r55 σ55 H locs h hP hS => ?_)
    refine lv_lstore (lv' := [(4, .long r55), (0, .ref (zq Z 0)), (3, .int x3)]) hx hb dX5_mixWatcher_58 hl (by decide) rfl (fun ls hl => ?_)
    refine lv_iconst (v := 0) hx hb dX5_mixWatcher_60 (by decide) ?_
    refine lv_istore (lv' := [(6, .int 0), (4, .long r55), (0, .ref (zq Z 0)), (3, .int x3)]) hx hb dX5_mixWatcher_61 hl (by decide) rfl (fun ls hl => ?_)
    obtain ⟨n, h⟩ := h
    exact B63 n σ55 x3 r55 0 _ _ _ h hP hS (lv_sub hl [2, 3, 1, 0] rfl)
  have B6 : ∀ (n : Nat) (σ : SS) (x3 : Int32) (x4 : Int64) (x6 : Int32) (H : Heap) (locs : List Loc) (ls : Array Slot), fx4 (lb_X5_mixWatcher_6 K) n σ x3 x4 x6 → PZ Z σ H → SZ Z s H locs → lv_has ls 8 [(0, .ref (zq Z 0)), (3, .int x3), (4, .long x4), (6, .int x6)] → W p l e (headSpec wsX5_mixWatcher (rm9 5 123)).room s m args below meth c H locs 0 0 (MQ below (qcL Z K s.heap.size) args s 0 0 (aZ Z s.heap.size)) (F0 m 6 ls []) := by
    intro n6
    induction n6 with
    | zero => intro σ x3 x4 x6 H locs ls h; exact h.elim
    | succ n6 ih6 =>
      intro σ x3 x4 x6 H locs ls h hP hS hl
      have h : lb_X5_mixWatcher_6 K (fx4 (lb_X5_mixWatcher_6 K) n6) σ x3 x4 x6 := h
      unfold lb_X5_mixWatcher_6 at h
      refine lv_iload hx hb dX5_mixWatcher_6 (lv_at hl 3 rfl) ?_
      refine lv_bipush (v := 9) hx hb dX5_mixWatcher_8 (by decide) ?_
      refine lv_icmp_gt (tgt := 34) hx hb dX5_mixWatcher_10 (by decide) (fun hc => ?_) (fun hc => ?_)
      · have h := h.1 hc
        exact B34 σ x3 x4 _ _ _ h hP hS (lv_sub hl [0, 1, 2] rfl)
      · have h := h.2 hc
        refine lv_lload hx hb dX5_mixWatcher_13 (lv_at hl 2 rfl) ?_
        refine lv_aload_n hx hb dX5_mixWatcher_15 rfl (lv_at hl 0 rfl) ?_
        refine lv_iload_n hx hb dX5_mixWatcher_16 rfl (lv_at hl 1 rfl) ?_
        refine lv_iload hx hb dX5_mixWatcher_17 (lv_at hl 3 rfl) ?_
        refine zc_VI (As := [.int x3, .int x6]) (rest := [.long x4]) ⟨hx, hb, hml, hown, hts⟩ (cwV 2 hts gX5_mixWatcher_X5_info rfl rfl rfl hd_X5_info ⟨Nat.le_of_ble_eq_true rfl, Nat.le_of_ble_eq_true rfl⟩) (mt_X5_info l hZ σ _ x3 x6 _ h) (rc_5 hZ hE hP kd0) hE hP hS rfl hl.1 rfl (Nat.le_of_ble_eq_true rfl) dX5_mixWatcher_19 ⟨Nat.zero_le _, Nat.zero_le _⟩ (fun r19 σ19 H locs h hP hS => ?_)
        refine lv_i2l hx hb dX5_mixWatcher_22 rfl ?_
        refine zc_SL (As := [.long x4, .long r19.toInt64]) (rest := []) ⟨hx, hb, hml, hown, hts⟩ (va_cwS 2 hts gX5_mixWatcher_X5_mix rfl rfl rfl hd_X5_mix ⟨Nat.le_of_ble_eq_true rfl, Nat.le_of_ble_eq_true rfl⟩) (mt_X5_mix l hZ σ19 _ x4 r19.toInt64 _ h) hE hP hS rfl hl.1 rfl (Nat.le_of_ble_eq_true rfl) dX5_mixWatcher_23 ⟨Nat.zero_le _, Nat.zero_le _⟩ (fun r23 σ23 H locs h hP hS => ?_)
        refine lv_lstore (lv' := [(4, .long r23), (0, .ref (zq Z 0)), (3, .int x3), (6, .int x6)]) hx hb dX5_mixWatcher_26 hl (by decide) rfl (fun ls hl => ?_)
        refine lv_iinc (v := (x6 + 1)) (lv' := [(6, .int (x6 + 1)), (4, .long r23), (0, .ref (zq Z 0)), (3, .int x3)]) hx hb dX5_mixWatcher_28 hl (k := 3) rfl rfl (by decide) rfl (fun ls hl => ?_)
        refine lv_goto (tgt := 6) hx hb dX5_mixWatcher_31 (by decide) ?_
        exact ih6 σ23 x3 r23 (x6 + 1) _ _ _ h hP hS (lv_sub hl [2, 3, 1, 0] rfl)
  unfold wp_X5_mixWatcher at h
  refine lv_lload_n hx hb dX5_mixWatcher_0 rfl (lv_at hl 1 rfl) ?_
  refine lv_lstore (lv' := [(4, .long x1), (0, .ref (zq Z 0)), (1, .long x1), (3, .int x3)]) hx hb dX5_mixWatcher_1 hl (by decide) rfl (fun ls hl => ?_)
  refine lv_iconst (v := 0) hx hb dX5_mixWatcher_3 (by decide) ?_
  refine lv_istore (lv' := [(6, .int 0), (4, .long x1), (0, .ref (zq Z 0)), (1, .long x1), (3, .int x3)]) hx hb dX5_mixWatcher_4 hl (by decide) rfl (fun ls hl => ?_)
  obtain ⟨n, h⟩ := h
  exact B6 n σ x3 x1 0 _ _ _ h hP hS (lv_sub hl [2, 4, 1, 0] rfl)
theorem hd_X5_digest : yX5_digest.cls = RX5 ∧ yX5_digest.cls ≠ "java/lang/invoke/MethodHandle" ∧ yX5_digest.cls ≠ "java/lang/invoke/VarHandle" ∧ (parseMethodDescriptor yX5_digest.desc).map (fun d => d.parameters.length) = some 0 := by decide +kernel
set_option maxHeartbeats 4000000 in
set_option maxRecDepth 100000 in
theorem mt_X5_digest (l : Launch) {Z : ZW} (hZ : isC Z) (σ : SS) (sz : Nat) (K : SS → Int64 → Prop) (h : wp_X5_digest σ K) : mtZ l yX5_digest wsX5_digest (rm9 6 150) Z [.ref (zq Z 0)] σ sz (qcL Z K sz) := by
  refine Met.ofW (cc := cX5_digest) (maxL := 4) (ret := (some .long)) (by decide) rfl ?_
  intro p e s m args below meth c s₁ B hml hv
  obtain ⟨hargs, hsz, hP, hE1, hE2, hE3⟩ := hv
  subst hsz
  have hE : envZ Z s := ⟨hE1, hE2, hE3⟩
  have hx := B.exec
  have hb := B.bytes
  have hr := B.returns
  have hlocks := B.notSynchronized
  have hts := atoms_spec (ws := wsX5_digest) B.pre
  have hown : s.vm.findClass RX5 = some m.cls := findClass_of_methodNamed B.named
  have hS : SZ Z s s.heap [] := va_S.rf
  obtain ⟨ls, hef, hl⟩ := z_entry m hargs (n := 4) (Nat.le_of_ble_eq_true rfl)
  rw [hef]
  have hl : lv_has ls 4 [(0, .ref (zq Z 0))] := hl
  have in5 : ∀ w ∈ u_ws RX5 TX5 15, w ∈ wsX5_digest := by decide +kernel
  have lk140 := hts (.fieldLink RX5 140 "BeatDoubts" "watcherCount" "I") (by decide +kernel)
  have lk285 := hts (.constantLong RX5 285 (17)) (by decide +kernel)
  have B153 : ∀ (σ : SS) (x1 : Int64) (H : Heap) (locs : List Loc) (ls : Array Slot), bl_X5_digest_153 K σ x1 → PZ Z σ H → SZ Z s H locs → lv_has ls 4 [(0, .ref (zq Z 0)), (1, .long x1)] → W p l e (headSpec wsX5_digest (rm9 6 150)).room s m args below meth c H locs 0 0 (MQ below (qcL Z K s.heap.size) args s 0 0 (aZ Z s.heap.size)) (F0 m 153 ls []) := by
    intro σ x1 H locs ls h hP hS hl
    unfold bl_X5_digest_153 at h
    refine lv_lload_n hx hb dX5_digest_153 rfl (lv_at hl 1 rfl) ?_
    refine lv_aload_n hx hb dX5_digest_154 rfl (lv_at hl 0 rfl) ?_
    refine zc_VI (As := []) (rest := [.long x1]) ⟨hx, hb, hml, hown, hts⟩ (cwV 0 hts gX5_digest_X5_shared rfl rfl rfl hd_X5_shared ⟨Nat.le_of_ble_eq_true rfl, Nat.le_of_ble_eq_true rfl⟩) (mt_X5_shared l hZ σ _  _ h) (rc_5 hZ hE hP kd0) hE hP hS rfl hl.1 rfl (Nat.le_of_ble_eq_true rfl) dX5_digest_155 ⟨Nat.zero_le _, Nat.zero_le _⟩ (fun r155 σ155 H locs h hP hS => ?_)
    refine lv_i2l hx hb dX5_digest_158 rfl ?_
    refine zc_SL (As := [.long x1, .long r155.toInt64]) (rest := []) ⟨hx, hb, hml, hown, hts⟩ (va_cwS 2 hts gX5_digest_X5_mix rfl rfl rfl hd_X5_mix ⟨Nat.le_of_ble_eq_true rfl, Nat.le_of_ble_eq_true rfl⟩) (mt_X5_mix l hZ σ155 _ x1 r155.toInt64 _ h) hE hP hS rfl hl.1 rfl (Nat.le_of_ble_eq_true rfl) dX5_digest_159 ⟨Nat.zero_le _, Nat.zero_le _⟩ (fun r159 σ159 H locs h hP hS => ?_)
    refine lv_lstore_n (lv' := [(1, .long r159), (0, .ref (zq Z 0))]) hx hb dX5_digest_162 rfl hl (by decide) rfl (fun ls hl => ?_)
    refine lv_lload_n hx hb dX5_digest_163 rfl (lv_at hl 0 rfl) ?_
    refine lv_aload_n hx hb dX5_digest_164 rfl (lv_at hl 1 rfl) ?_
    refine zc_VI (As := []) (rest := [.long r159]) ⟨hx, hb, hml, hown, hts⟩ (cwV 0 hts gX5_digest_X5_saved rfl rfl rfl hd_X5_saved ⟨Nat.le_of_ble_eq_true rfl, Nat.le_of_ble_eq_true rfl⟩) (mt_X5_saved l hZ σ159 _  _ h) (rc_5 hZ hE hP kd0) hE hP hS rfl hl.1 rfl (Nat.le_of_ble_eq_true rfl) dX5_digest_165 ⟨Nat.zero_le _, Nat.zero_le _⟩ (fun r165 σ165 H locs h hP hS => ?_)
    refine lv_i2l hx hb dX5_digest_168 rfl ?_
    refine zc_SL (As := [.long r159, .long r165.toInt64]) (rest := []) ⟨hx, hb, hml, hown, hts⟩ (va_cwS 2 hts gX5_digest_X5_mix rfl rfl rfl hd_X5_mix ⟨Nat.le_of_ble_eq_true rfl, Nat.le_of_ble_eq_true rfl⟩) (mt_X5_mix l hZ σ165 _ r159 r165.toInt64 _ h) hE hP hS rfl hl.1 rfl (Nat.le_of_ble_eq_true rfl) dX5_digest_169 ⟨Nat.zero_le _, Nat.zero_le _⟩ (fun r169 σ169 H locs h hP hS => ?_)
    exact zr_L hx hb hr hlocks hP hS h dX5_digest_172
  have B118 : ∀ (n : Nat) (σ : SS) (x1 : Int64) (x3 : Int32) (H : Heap) (locs : List Loc) (ls : Array Slot), fx3 (lb_X5_digest_118 K) n σ x1 x3 → PZ Z σ H → SZ Z s H locs → lv_has ls 4 [(0, .ref (zq Z 0)), (1, .long x1), (3, .int x3)] → W p l e (headSpec wsX5_digest (rm9 6 150)).room s m args below meth c H locs 0 0 (MQ below (qcL Z K s.heap.size) args s 0 0 (aZ Z s.heap.size)) (F0 m 118 ls []) := by
    intro n118
    induction n118 with
    | zero => intro σ x1 x3 H locs ls h; exact h.elim
    | succ n118 ih118 =>
      intro σ x1 x3 H locs ls h hP hS hl
      have h : lb_X5_digest_118 K (fx3 (lb_X5_digest_118 K) n118) σ x1 x3 := h
      unfold lb_X5_digest_118 at h
      refine lv_iload_n hx hb dX5_digest_118 rfl (lv_at hl 2 rfl) ?_
      refine lv_iconst (v := 2) hx hb dX5_digest_119 (by decide) ?_
      refine lv_icmp_gt (tgt := 153) hx hb dX5_digest_120 (by decide) (fun hc => ?_) (fun hc => ?_)
      · have h := h.1 hc
        exact B153 σ x1 _ _ _ h hP hS (lv_sub hl [0, 1] rfl)
      · have h := h.2 hc
        refine lv_lload_n hx hb dX5_digest_123 rfl (lv_at hl 1 rfl) ?_
        refine lv_aload_n hx hb dX5_digest_124 rfl (lv_at hl 0 rfl) ?_
        refine lv_iload_n hx hb dX5_digest_125 rfl (lv_at hl 2 rfl) ?_
        refine lv_iconst (v := 0) hx hb dX5_digest_126 (by decide) ?_
        refine zc_VI (As := [.int x3, .int 0]) (rest := [.long x1]) ⟨hx, hb, hml, hown, hts⟩ (cwV 2 hts gX5_digest_X5_least rfl rfl rfl hd_X5_least ⟨Nat.le_of_ble_eq_true rfl, Nat.le_of_ble_eq_true rfl⟩) (mt_X5_least l hZ σ _ x3 0 _ h) (rc_5 hZ hE hP kd0) hE hP hS rfl hl.1 rfl (Nat.le_of_ble_eq_true rfl) dX5_digest_127 ⟨Nat.zero_le _, Nat.zero_le _⟩ (fun r127 σ127 H locs h hP hS => ?_)
        refine lv_i2l hx hb dX5_digest_130 rfl ?_
        refine zc_SL (As := [.long x1, .long r127.toInt64]) (rest := []) ⟨hx, hb, hml, hown, hts⟩ (va_cwS 2 hts gX5_digest_X5_mix rfl rfl rfl hd_X5_mix ⟨Nat.le_of_ble_eq_true rfl, Nat.le_of_ble_eq_true rfl⟩) (mt_X5_mix l hZ σ127 _ x1 r127.toInt64 _ h) hE hP hS rfl hl.1 rfl (Nat.le_of_ble_eq_true rfl) dX5_digest_131 ⟨Nat.zero_le _, Nat.zero_le _⟩ (fun r131 σ131 H locs h hP hS => ?_)
        refine lv_lstore_n (lv' := [(1, .long r131), (0, .ref (zq Z 0)), (3, .int x3)]) hx hb dX5_digest_134 rfl hl (by decide) rfl (fun ls hl => ?_)
        refine lv_lload_n hx hb dX5_digest_135 rfl (lv_at hl 0 rfl) ?_
        refine lv_aload_n hx hb dX5_digest_136 rfl (lv_at hl 1 rfl) ?_
        refine lv_iload_n hx hb dX5_digest_137 rfl (lv_at hl 2 rfl) ?_
        refine lv_iconst (v := 2) hx hb dX5_digest_138 (by decide) ?_
        refine zc_VI (As := [.int x3, .int 2]) (rest := [.long r131]) ⟨hx, hb, hml, hown, hts⟩ (cwV 2 hts gX5_digest_X5_least rfl rfl rfl hd_X5_least ⟨Nat.le_of_ble_eq_true rfl, Nat.le_of_ble_eq_true rfl⟩) (mt_X5_least l hZ σ131 _ x3 2 _ h) (rc_5 hZ hE hP kd0) hE hP hS rfl hl.1 rfl (Nat.le_of_ble_eq_true rfl) dX5_digest_139 ⟨Nat.zero_le _, Nat.zero_le _⟩ (fun r139 σ139 H locs h hP hS => ?_)
        refine lv_i2l hx hb dX5_digest_142 rfl ?_
        refine zc_SL (As := [.long r131, .long r139.toInt64]) (rest := []) ⟨hx, hb, hml, hown, hts⟩ (va_cwS 2 hts gX5_digest_X5_mix rfl rfl rfl hd_X5_mix ⟨Nat.le_of_ble_eq_true rfl, Nat.le_of_ble_eq_true rfl⟩) (mt_X5_mix l hZ σ139 _ r131 r139.toInt64 _ h) hE hP hS rfl hl.1 rfl (Nat.le_of_ble_eq_true rfl) dX5_digest_143 ⟨Nat.zero_le _, Nat.zero_le _⟩ (fun r143 σ143 H locs h hP hS => ?_)
        refine lv_lstore_n (lv' := [(1, .long r143), (0, .ref (zq Z 0)), (3, .int x3)]) hx hb dX5_digest_146 rfl hl (by decide) rfl (fun ls hl => ?_)
        refine lv_iinc (v := (x3 + 1)) (lv' := [(3, .int (x3 + 1)), (1, .long r143), (0, .ref (zq Z 0))]) hx hb dX5_digest_147 hl (k := 2) rfl rfl (by decide) rfl (fun ls hl => ?_)
        refine lv_goto (tgt := 118) hx hb dX5_digest_150 (by decide) ?_
        exact ih118 σ143 r143 (x3 + 1) _ _ _ h hP hS (lv_sub hl [2, 1, 0] rfl)
  have B70 : ∀ (n : Nat) (σ : SS) (x1 : Int64) (x3 : Int32) (H : Heap) (locs : List Loc) (ls : Array Slot), fx3 (lb_X5_digest_70 K) n σ x1 x3 → PZ Z σ H → SZ Z s H locs → lv_has ls 4 [(0, .ref (zq Z 0)), (1, .long x1), (3, .int x3)] → W p l e (headSpec wsX5_digest (rm9 6 150)).room s m args below meth c H locs 0 0 (MQ below (qcL Z K s.heap.size) args s 0 0 (aZ Z s.heap.size)) (F0 m 70 ls []) := by
    intro n70
    induction n70 with
    | zero => intro σ x1 x3 H locs ls h; exact h.elim
    | succ n70 ih70 =>
      intro σ x1 x3 H locs ls h hP hS hl
      have h : lb_X5_digest_70 K (fx3 (lb_X5_digest_70 K) n70) σ x1 x3 := h
      unfold lb_X5_digest_70 at h
      refine lv_iload_n hx hb dX5_digest_70 rfl (lv_at hl 2 rfl) ?_
      refine lv_sipush (v := 1000) hx hb dX5_digest_71 (by decide) ?_
      refine lv_icmp_gt (tgt := 116) hx hb dX5_digest_74 (by decide) (fun hc => ?_) (fun hc => ?_)
      · have h := h.1 hc
        refine lv_iconst (v := 0) hx hb dX5_digest_116 (by decide) ?_
        refine lv_istore_n (lv' := [(3, .int 0), (0, .ref (zq Z 0)), (1, .long x1)]) hx hb dX5_digest_117 rfl hl (by decide) rfl (fun ls hl => ?_)
        obtain ⟨n, h⟩ := h
        exact B118 n σ x1 0 _ _ _ h hP hS (lv_sub hl [1, 2, 0] rfl)
      · have h := h.2 hc
        refine lv_lload_n hx hb dX5_digest_77 rfl (lv_at hl 1 rfl) ?_
        refine lv_aload_n hx hb dX5_digest_78 rfl (lv_at hl 0 rfl) ?_
        refine lv_iload_n hx hb dX5_digest_79 rfl (lv_at hl 2 rfl) ?_
        refine zc_VI (As := [.int x3]) (rest := [.long x1]) ⟨hx, hb, hml, hown, hts⟩ (cwV 1 hts gX5_digest_X5_doubts rfl rfl rfl hd_X5_doubts ⟨Nat.le_of_ble_eq_true rfl, Nat.le_of_ble_eq_true rfl⟩) (mt_X5_doubts l hZ σ _ x3 _ h) (rc_5 hZ hE hP kd0) hE hP hS rfl hl.1 rfl (Nat.le_of_ble_eq_true rfl) dX5_digest_80 ⟨Nat.zero_le _, Nat.zero_le _⟩ (fun r80 σ80 H locs h hP hS => ?_)
        refine lv_i2l hx hb dX5_digest_83 rfl ?_
        refine zc_SL (As := [.long x1, .long r80.toInt64]) (rest := []) ⟨hx, hb, hml, hown, hts⟩ (va_cwS 2 hts gX5_digest_X5_mix rfl rfl rfl hd_X5_mix ⟨Nat.le_of_ble_eq_true rfl, Nat.le_of_ble_eq_true rfl⟩) (mt_X5_mix l hZ σ80 _ x1 r80.toInt64 _ h) hE hP hS rfl hl.1 rfl (Nat.le_of_ble_eq_true rfl) dX5_digest_84 ⟨Nat.zero_le _, Nat.zero_le _⟩ (fun r84 σ84 H locs h hP hS => ?_)
        refine lv_lstore_n (lv' := [(1, .long r84), (0, .ref (zq Z 0)), (3, .int x3)]) hx hb dX5_digest_87 rfl hl (by decide) rfl (fun ls hl => ?_)
        refine lv_lload_n hx hb dX5_digest_88 rfl (lv_at hl 0 rfl) ?_
        refine lv_aload_n hx hb dX5_digest_89 rfl (lv_at hl 1 rfl) ?_
        refine lv_iload_n hx hb dX5_digest_90 rfl (lv_at hl 2 rfl) ?_
        refine lv_iconst (v := 0) hx hb dX5_digest_91 (by decide) ?_
        refine zc_VL (As := [.int x3, .int 0]) (rest := [.long r84]) ⟨hx, hb, hml, hown, hts⟩ (cwV 2 hts gX5_digest_X5_score rfl rfl rfl hd_X5_score ⟨Nat.le_of_ble_eq_true rfl, Nat.le_of_ble_eq_true rfl⟩) (mt_X5_score l hZ σ84 _ x3 0 _ h) (rc_5 hZ hE hP kd0) hE hP hS rfl hl.1 rfl (Nat.le_of_ble_eq_true rfl) dX5_digest_92 ⟨Nat.zero_le _, Nat.zero_le _⟩ (fun r92 σ92 H locs h hP hS => ?_)
        refine zc_SL (As := [.long r84, .long r92]) (rest := []) ⟨hx, hb, hml, hown, hts⟩ (va_cwS 2 hts gX5_digest_X5_mix rfl rfl rfl hd_X5_mix ⟨Nat.le_of_ble_eq_true rfl, Nat.le_of_ble_eq_true rfl⟩) (mt_X5_mix l hZ σ92 _ r84 r92 _ h) hE hP hS rfl hl.1 rfl (Nat.le_of_ble_eq_true rfl) dX5_digest_95 ⟨Nat.zero_le _, Nat.zero_le _⟩ (fun r95 σ95 H locs h hP hS => ?_)
        refine lv_lstore_n (lv' := [(1, .long r95), (0, .ref (zq Z 0)), (3, .int x3)]) hx hb dX5_digest_98 rfl hl (by decide) rfl (fun ls hl => ?_)
        refine lv_lload_n hx hb dX5_digest_99 rfl (lv_at hl 0 rfl) ?_
        refine lv_aload_n hx hb dX5_digest_100 rfl (lv_at hl 1 rfl) ?_
        refine lv_iload_n hx hb dX5_digest_101 rfl (lv_at hl 2 rfl) ?_
        refine lv_iconst (v := 1) hx hb dX5_digest_102 (by decide) ?_
        refine zc_VL (As := [.int x3, .int 1]) (rest := [.long r95]) ⟨hx, hb, hml, hown, hts⟩ (cwV 2 hts gX5_digest_X5_score rfl rfl rfl hd_X5_score ⟨Nat.le_of_ble_eq_true rfl, Nat.le_of_ble_eq_true rfl⟩) (mt_X5_score l hZ σ95 _ x3 1 _ h) (rc_5 hZ hE hP kd0) hE hP hS rfl hl.1 rfl (Nat.le_of_ble_eq_true rfl) dX5_digest_103 ⟨Nat.zero_le _, Nat.zero_le _⟩ (fun r103 σ103 H locs h hP hS => ?_)
        refine zc_SL (As := [.long r95, .long r103]) (rest := []) ⟨hx, hb, hml, hown, hts⟩ (va_cwS 2 hts gX5_digest_X5_mix rfl rfl rfl hd_X5_mix ⟨Nat.le_of_ble_eq_true rfl, Nat.le_of_ble_eq_true rfl⟩) (mt_X5_mix l hZ σ103 _ r95 r103 _ h) hE hP hS rfl hl.1 rfl (Nat.le_of_ble_eq_true rfl) dX5_digest_106 ⟨Nat.zero_le _, Nat.zero_le _⟩ (fun r106 σ106 H locs h hP hS => ?_)
        refine lv_lstore_n (lv' := [(1, .long r106), (0, .ref (zq Z 0)), (3, .int x3)]) hx hb dX5_digest_109 rfl hl (by decide) rfl (fun ls hl => ?_)
        refine lv_iinc (v := (x3 + 50)) (lv' := [(3, .int (x3 + 50)), (1, .long r106), (0, .ref (zq Z 0))]) hx hb dX5_digest_110 hl (k := 2) rfl rfl (by decide) rfl (fun ls hl => ?_)
        refine lv_goto (tgt := 70) hx hb dX5_digest_113 (by decide) ?_
        exact ih70 σ106 r106 (x3 + 50) _ _ _ h hP hS (lv_sub hl [2, 1, 0] rfl)
  have B47 : ∀ (n : Nat) (σ : SS) (x1 : Int64) (x3 : Int32) (H : Heap) (locs : List Loc) (ls : Array Slot), fx3 (lb_X5_digest_47 K) n σ x1 x3 → PZ Z σ H → SZ Z s H locs → lv_has ls 4 [(0, .ref (zq Z 0)), (1, .long x1), (3, .int x3)] → W p l e (headSpec wsX5_digest (rm9 6 150)).room s m args below meth c H locs 0 0 (MQ below (qcL Z K s.heap.size) args s 0 0 (aZ Z s.heap.size)) (F0 m 47 ls []) := by
    intro n47
    induction n47 with
    | zero => intro σ x1 x3 H locs ls h; exact h.elim
    | succ n47 ih47 =>
      intro σ x1 x3 H locs ls h hP hS hl
      have h : lb_X5_digest_47 K (fx3 (lb_X5_digest_47 K) n47) σ x1 x3 := h
      unfold lb_X5_digest_47 at h
      refine lv_iload_n hx hb dX5_digest_47 rfl (lv_at hl 2 rfl) ?_
      refine lv_aload_n hx hb dX5_digest_48 rfl (lv_at hl 0 rfl) ?_
      refine fg_5_6 hZ hx hb hts in5 hown hE hP kd0 lk140 dX5_digest_49 ?_
      refine lv_icmp_ge (tgt := 68) hx hb dX5_digest_52 (by decide) (fun hc => ?_) (fun hc => ?_)
      · have h := h.1 hc
        refine lv_iconst (v := 0) hx hb dX5_digest_68 (by decide) ?_
        refine lv_istore_n (lv' := [(3, .int 0), (0, .ref (zq Z 0)), (1, .long x1)]) hx hb dX5_digest_69 rfl hl (by decide) rfl (fun ls hl => ?_)
        obtain ⟨n, h⟩ := h
        exact B70 n σ x1 0 _ _ _ h hP hS (lv_sub hl [1, 2, 0] rfl)
      · have h := h.2 hc
        refine lv_aload_n hx hb dX5_digest_55 rfl (lv_at hl 0 rfl) ?_
        refine lv_lload_n hx hb dX5_digest_56 rfl (lv_at hl 1 rfl) ?_
        refine lv_iload_n hx hb dX5_digest_57 rfl (lv_at hl 2 rfl) ?_
        refine zc_VL (As := [.long x1, .int x3]) (rest := []) ⟨hx, hb, hml, hown, hts⟩ (cwV 2 hts gX5_digest_X5_mixWatcher rfl rfl rfl hd_X5_mixWatcher ⟨Nat.le_of_ble_eq_true rfl, Nat.le_of_ble_eq_true rfl⟩) (mt_X5_mixWatcher l hZ σ _ x1 x3 _ h) (rc_5 hZ hE hP kd0) hE hP hS rfl hl.1 rfl (Nat.le_of_ble_eq_true rfl) dX5_digest_58 ⟨Nat.zero_le _, Nat.zero_le _⟩ (fun r58 σ58 H locs h hP hS => ?_)
        refine lv_lstore_n (lv' := [(1, .long r58), (0, .ref (zq Z 0)), (3, .int x3)]) hx hb dX5_digest_61 rfl hl (by decide) rfl (fun ls hl => ?_)
        refine lv_iinc (v := (x3 + 1)) (lv' := [(3, .int (x3 + 1)), (1, .long r58), (0, .ref (zq Z 0))]) hx hb dX5_digest_62 hl (k := 2) rfl rfl (by decide) rfl (fun ls hl => ?_)
        refine lv_goto (tgt := 47) hx hb dX5_digest_65 (by decide) ?_
        exact ih47 σ58 r58 (x3 + 1) _ _ _ h hP hS (lv_sub hl [2, 1, 0] rfl)
  have B33 : ∀ (σ : SS) (x1 : Int64) (H : Heap) (locs : List Loc) (ls : Array Slot), bl_X5_digest_33 K σ x1 → PZ Z σ H → SZ Z s H locs → lv_has ls 4 [(0, .ref (zq Z 0)), (1, .long x1)] → W p l e (headSpec wsX5_digest (rm9 6 150)).room s m args below meth c H locs 0 0 (MQ below (qcL Z K s.heap.size) args s 0 0 (aZ Z s.heap.size)) (F0 m 33 ls []) := by
    intro σ x1 H locs ls h hP hS hl
    unfold bl_X5_digest_33 at h
    refine lv_aload_n hx hb dX5_digest_33 rfl (lv_at hl 0 rfl) ?_
    refine lv_lload_n hx hb dX5_digest_34 rfl (lv_at hl 1 rfl) ?_
    refine zc_VL (As := [.long x1]) (rest := []) ⟨hx, hb, hml, hown, hts⟩ (cwV 1 hts gX5_digest_X5_mixBeats rfl rfl rfl hd_X5_mixBeats ⟨Nat.le_of_ble_eq_true rfl, Nat.le_of_ble_eq_true rfl⟩) (mt_X5_mixBeats l hZ σ _ x1 _ h) (rc_5 hZ hE hP kd0) hE hP hS rfl hl.1 rfl (Nat.le_of_ble_eq_true rfl) dX5_digest_35 ⟨Nat.zero_le _, Nat.zero_le _⟩ (fun r35 σ35 H locs h hP hS => ?_)
    refine lv_lstore_n (lv' := [(1, .long r35), (0, .ref (zq Z 0))]) hx hb dX5_digest_38 rfl hl (by decide) rfl (fun ls hl => ?_)
    refine lv_aload_n hx hb dX5_digest_39 rfl (lv_at hl 1 rfl) ?_
    refine lv_lload_n hx hb dX5_digest_40 rfl (lv_at hl 0 rfl) ?_
    refine zc_VL (As := [.long r35]) (rest := []) ⟨hx, hb, hml, hown, hts⟩ (cwV 1 hts gX5_digest_X5_mixNews rfl rfl rfl hd_X5_mixNews ⟨Nat.le_of_ble_eq_true rfl, Nat.le_of_ble_eq_true rfl⟩) (mt_X5_mixNews l hZ σ35 _ r35 _ h) (rc_5 hZ hE hP kd0) hE hP hS rfl hl.1 rfl (Nat.le_of_ble_eq_true rfl) dX5_digest_41 ⟨Nat.zero_le _, Nat.zero_le _⟩ (fun r41 σ41 H locs h hP hS => ?_)
    refine lv_lstore_n (lv' := [(1, .long r41), (0, .ref (zq Z 0))]) hx hb dX5_digest_44 rfl hl (by decide) rfl (fun ls hl => ?_)
    refine lv_iconst (v := 0) hx hb dX5_digest_45 (by decide) ?_
    refine lv_istore_n (lv' := [(3, .int 0), (1, .long r41), (0, .ref (zq Z 0))]) hx hb dX5_digest_46 rfl hl (by decide) rfl (fun ls hl => ?_)
    obtain ⟨n, h⟩ := h
    exact B47 n σ41 r41 0 _ _ _ h hP hS (lv_sub hl [2, 1, 0] rfl)
  have B10 : ∀ (n : Nat) (σ : SS) (x1 : Int64) (x3 : Int32) (H : Heap) (locs : List Loc) (ls : Array Slot), fx3 (lb_X5_digest_10 K) n σ x1 x3 → PZ Z σ H → SZ Z s H locs → lv_has ls 4 [(0, .ref (zq Z 0)), (1, .long x1), (3, .int x3)] → W p l e (headSpec wsX5_digest (rm9 6 150)).room s m args below meth c H locs 0 0 (MQ below (qcL Z K s.heap.size) args s 0 0 (aZ Z s.heap.size)) (F0 m 10 ls []) := by
    intro n10
    induction n10 with
    | zero => intro σ x1 x3 H locs ls h; exact h.elim
    | succ n10 ih10 =>
      intro σ x1 x3 H locs ls h hP hS hl
      have h : lb_X5_digest_10 K (fx3 (lb_X5_digest_10 K) n10) σ x1 x3 := h
      unfold lb_X5_digest_10 at h
      refine lv_iload_n hx hb dX5_digest_10 rfl (lv_at hl 2 rfl) ?_
      refine lv_bipush (v := 7) hx hb dX5_digest_11 (by decide) ?_
      refine lv_icmp_gt (tgt := 33) hx hb dX5_digest_13 (by decide) (fun hc => ?_) (fun hc => ?_)
      · have h := h.1 hc
        exact B33 σ x1 _ _ _ h hP hS (lv_sub hl [0, 1] rfl)
      · have h := h.2 hc
        refine lv_lload_n hx hb dX5_digest_16 rfl (lv_at hl 1 rfl) ?_
        refine lv_aload_n hx hb dX5_digest_17 rfl (lv_at hl 0 rfl) ?_
        refine lv_iload_n hx hb dX5_digest_18 rfl (lv_at hl 2 rfl) ?_
        refine zc_VI (As := [.int x3]) (rest := [.long x1]) ⟨hx, hb, hml, hown, hts⟩ (cwV 1 hts gX5_digest_X5_count rfl rfl rfl hd_X5_count ⟨Nat.le_of_ble_eq_true rfl, Nat.le_of_ble_eq_true rfl⟩) (mt_X5_count l hZ σ _ x3 _ h) (rc_5 hZ hE hP kd0) hE hP hS rfl hl.1 rfl (Nat.le_of_ble_eq_true rfl) dX5_digest_19 ⟨Nat.zero_le _, Nat.zero_le _⟩ (fun r19 σ19 H locs h hP hS => ?_)
        refine lv_i2l hx hb dX5_digest_22 rfl ?_
        refine zc_SL (As := [.long x1, .long r19.toInt64]) (rest := []) ⟨hx, hb, hml, hown, hts⟩ (va_cwS 2 hts gX5_digest_X5_mix rfl rfl rfl hd_X5_mix ⟨Nat.le_of_ble_eq_true rfl, Nat.le_of_ble_eq_true rfl⟩) (mt_X5_mix l hZ σ19 _ x1 r19.toInt64 _ h) hE hP hS rfl hl.1 rfl (Nat.le_of_ble_eq_true rfl) dX5_digest_23 ⟨Nat.zero_le _, Nat.zero_le _⟩ (fun r23 σ23 H locs h hP hS => ?_)
        refine lv_lstore_n (lv' := [(1, .long r23), (0, .ref (zq Z 0)), (3, .int x3)]) hx hb dX5_digest_26 rfl hl (by decide) rfl (fun ls hl => ?_)
        refine lv_iinc (v := (x3 + 1)) (lv' := [(3, .int (x3 + 1)), (1, .long r23), (0, .ref (zq Z 0))]) hx hb dX5_digest_27 hl (k := 2) rfl rfl (by decide) rfl (fun ls hl => ?_)
        refine lv_goto (tgt := 10) hx hb dX5_digest_30 (by decide) ?_
        exact ih10 σ23 r23 (x3 + 1) _ _ _ h hP hS (lv_sub hl [2, 1, 0] rfl)
  unfold wp_X5_digest at h
  refine lv_aload_n hx hb dX5_digest_0 rfl (lv_at hl 0 rfl) ?_
  refine zc_VV (As := []) (rest := []) ⟨hx, hb, hml, hown, hts⟩ (cwV 0 hts gX5_digest_X5_followArrivals rfl rfl rfl hd_X5_followArrivals ⟨Nat.le_of_ble_eq_true rfl, Nat.le_of_ble_eq_true rfl⟩) (mt_X5_followArrivals l hZ σ _  _ h) (rc_5 hZ hE hP kd0) hE hP hS rfl hl.1 rfl (Nat.le_of_ble_eq_true rfl) dX5_digest_1 ⟨Nat.zero_le _, Nat.zero_le _⟩ (fun σ1 H locs h hP hS => ?_)
  refine lv_ldc2 (v := 17) hx hb hown lk285 dX5_digest_4 ?_
  refine lv_lstore_n (lv' := [(1, .long 17), (0, .ref (zq Z 0))]) hx hb dX5_digest_7 rfl hl (by decide) rfl (fun ls hl => ?_)
  refine lv_iconst (v := 0) hx hb dX5_digest_8 (by decide) ?_
  refine lv_istore_n (lv' := [(3, .int 0), (1, .long 17), (0, .ref (zq Z 0))]) hx hb dX5_digest_9 rfl hl (by decide) rfl (fun ls hl => ?_)
  obtain ⟨n, h⟩ := h
  exact B10 n σ1 17 0 _ _ _ h hP hS (lv_sub hl [2, 1, 0] rfl)
