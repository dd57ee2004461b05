theorem hd_X5_longest : yX5_longest.cls = RX5 ∧ yX5_longest.cls ≠ "java/lang/invoke/MethodHandle" ∧ yX5_longest.cls ≠ "java/lang/invoke/VarHandle" ∧ (parseMethodDescriptor yX5_longest.desc).map (fun d => d.parameters.length) = some 1 := by decide +kernel
set_option maxHeartbeats 4000000 in
set_option maxRecDepth 100000 in
theorem mt_X5_longest (l : Launch) {Z : ZW} (hZ : isC Z) (σ : SS) (sz : Nat) (x1 : Int32) (K : SS → Int32 → Prop) (h : wp_X5_longest σ x1 K) : mtZ l yX5_longest wsX5_longest (rm9 4 100) Z [.ref (zq Z 0), .int x1] σ sz (qcI Z K sz) := by
  refine Met.ofW (cc := cX5_longest) (maxL := 2) (ret := (some .int)) (by decide) rfl ?_
  intro p e s m args below meth c s₁ B hml hv
  obtain ⟨hargs, hsz, hP, hE1, hE2, hE3⟩ := hv
  subst hsz
  have hE : envZ Z s := ⟨hE1, hE2, hE3⟩
  have hx := B.exec
  have hb := B.bytes
  have hr := B.returns
  have hlocks := B.notSynchronized
  have hts := atoms_spec (ws := wsX5_longest) B.pre
  have hown : s.vm.findClass RX5 = some m.cls := findClass_of_methodNamed B.named
  have hS : SZ Z s s.heap [] := va_S.rf
  obtain ⟨ls, hef, hl⟩ := z_entry m hargs (n := 2) (Nat.le_of_ble_eq_true rfl)
  rw [hef]
  have hl : lv_has ls 2 [(0, .ref (zq Z 0)), (1, .int x1)] := hl
  unfold wp_X5_longest at h
  refine lv_aload_n hx hb dX5_longest_0 rfl (lv_at hl 0 rfl) ?_
  refine lv_iload_n hx hb dX5_longest_1 rfl (lv_at hl 1 rfl) ?_
  refine zc_VI (As := [.int x1]) (rest := []) ⟨hx, hb, hml, hown, hts⟩ (cwV 1 hts gX5_longest_X5_isWatcher rfl rfl rfl hd_X5_isWatcher ⟨Nat.le_of_ble_eq_true rfl, Nat.le_of_ble_eq_true rfl⟩) (mt_X5_isWatcher l hZ σ _ x1 _ h) (rc_5 hZ hE hP kd0) hE hP hS rfl hl.1 rfl (Nat.le_of_ble_eq_true rfl) dX5_longest_2 ⟨Nat.zero_le _, Nat.zero_le _⟩ (fun r2 σ2 H locs h hP hS => ?_)
  refine lv_if_ne (tgt := 11) hx hb dX5_longest_5 (by decide) (fun hc => ?_) (fun hc => ?_)
  · have h := h.1 hc
    refine lv_aload_n hx hb dX5_longest_11 rfl (lv_at hl 0 rfl) ?_
    refine zc_VV (As := []) (rest := []) ⟨hx, hb, hml, hown, hts⟩ (cwV 0 hts gX5_longest_X5_weighPeriods rfl rfl rfl hd_X5_weighPeriods ⟨Nat.le_of_ble_eq_true rfl, Nat.le_of_ble_eq_true rfl⟩) (mt_X5_weighPeriods l hZ σ2 _  _ h) (rc_5 hZ hE hP kd0) hE hP hS rfl hl.1 rfl (Nat.le_of_ble_eq_true rfl) dX5_longest_12 ⟨Nat.zero_le _, Nat.zero_le _⟩ (fun σ12 H locs h hP hS => ?_)
    refine lv_aload_n hx hb dX5_longest_15 rfl (lv_at hl 0 rfl) ?_
    refine lv_iconst (v := 1) hx hb dX5_longest_16 (by decide) ?_
    refine lv_iload_n hx hb dX5_longest_17 rfl (lv_at hl 1 rfl) ?_
    refine lv_ishl hx hb dX5_longest_18 ?_
    refine zc_VI (As := [.int ((1 : Int32) <<< (x1 &&& 31))]) (rest := []) ⟨hx, hb, hml, hown, hts⟩ (cwV 1 hts gX5_longest_X5_longestKeptBy rfl rfl rfl hd_X5_longestKeptBy ⟨Nat.le_of_ble_eq_true rfl, Nat.le_of_ble_eq_true rfl⟩) (mt_X5_longestKeptBy l hZ σ12 _ ((1 : Int32) <<< (x1 &&& 31)) _ h) (rc_5 hZ hE hP kd0) hE hP hS rfl hl.1 rfl (Nat.le_of_ble_eq_true rfl) dX5_longest_19 ⟨Nat.zero_le _, Nat.zero_le _⟩ (fun r19 σ19 H locs h hP hS => ?_)
    exact zr_I hx hb hr hlocks hP hS h dX5_longest_22
  · have h := h.2 hc
    refine lv_bipush (v := (-2)) hx hb dX5_longest_8 (by decide) ?_
    exact zr_I hx hb hr hlocks hP hS h dX5_longest_10
theorem hd_X5_shared : yX5_shared.cls = RX5 ∧ yX5_shared.cls ≠ "java/lang/invoke/MethodHandle" ∧ yX5_shared.cls ≠ "java/lang/invoke/VarHandle" ∧ (parseMethodDescriptor yX5_shared.desc).map (fun d => d.parameters.length) = some 0 := by decide +kernel
set_option maxHeartbeats 4000000 in
set_option maxRecDepth 100000 in
theorem mt_X5_shared (l : Launch) {Z : ZW} (hZ : isC Z) (σ : SS) (sz : Nat) (K : SS → Int32 → Prop) (h : wp_X5_shared σ K) : mtZ l yX5_shared wsX5_shared (rm9 4 100) Z [.ref (zq Z 0)] σ sz (qcI Z K sz) := by
  refine Met.ofW (cc := cX5_shared) (maxL := 1) (ret := (some .int)) (by decide) rfl ?_
  intro p e s m args below meth c s₁ B hml hv
  obtain ⟨hargs, hsz, hP, hE1, hE2, hE3⟩ := hv
  subst hsz
  have hE : envZ Z s := ⟨hE1, hE2, hE3⟩
  have hx := B.exec
  have hb := B.bytes
  have hr := B.returns
  have hlocks := B.notSynchronized
  have hts := atoms_spec (ws := wsX5_shared) B.pre
  have hown : s.vm.findClass RX5 = some m.cls := findClass_of_methodNamed B.named
  have hS : SZ Z s s.heap [] := va_S.rf
  obtain ⟨ls, hef, hl⟩ := z_entry m hargs (n := 1) (Nat.le_of_ble_eq_true rfl)
  rw [hef]
  have hl : lv_has ls 1 [(0, .ref (zq Z 0))] := hl
  have in5 : ∀ w ∈ u_ws RX5 TX5 15, w ∈ wsX5_shared := by decide +kernel
  have lk140 := hts (.fieldLink RX5 140 "BeatDoubts" "watcherCount" "I") (by decide +kernel)
  unfold wp_X5_shared at h
  refine lv_aload_n hx hb dX5_shared_0 rfl (lv_at hl 0 rfl) ?_
  refine zc_VV (As := []) (rest := []) ⟨hx, hb, hml, hown, hts⟩ (cwV 0 hts gX5_shared_X5_weighPeriods rfl rfl rfl hd_X5_weighPeriods ⟨Nat.le_of_ble_eq_true rfl, Nat.le_of_ble_eq_true rfl⟩) (mt_X5_weighPeriods l hZ σ _  _ h) (rc_5 hZ hE hP kd0) hE hP hS rfl hl.1 rfl (Nat.le_of_ble_eq_true rfl) dX5_shared_1 ⟨Nat.zero_le _, Nat.zero_le _⟩ (fun σ1 H locs h hP hS => ?_)
  refine lv_aload_n hx hb dX5_shared_4 rfl (lv_at hl 0 rfl) ?_
  refine lv_iconst (v := 1) hx hb dX5_shared_5 (by decide) ?_
  refine lv_aload_n hx hb dX5_shared_6 rfl (lv_at hl 0 rfl) ?_
  refine fg_5_6 hZ hx hb hts in5 hown hE hP kd0 lk140 dX5_shared_7 ?_
  refine lv_ishl hx hb dX5_shared_10 ?_
  refine lv_iconst (v := 1) hx hb dX5_shared_11 (by decide) ?_
  refine lv_isub hx hb dX5_shared_12 ?_
  refine zc_VI (As := [.int (((1 : Int32) <<< ((gI σ1 0 6) &&& 31)) - 1)]) (rest := []) ⟨hx, hb, hml, hown, hts⟩ (cwV 1 hts gX5_shared_X5_longestKeptBy rfl rfl rfl hd_X5_longestKeptBy ⟨Nat.le_of_ble_eq_true rfl, Nat.le_of_ble_eq_true rfl⟩) (mt_X5_longestKeptBy l hZ σ1 _ (((1 : Int32) <<< ((gI σ1 0 6) &&& 31)) - 1) _ h) (rc_5 hZ hE hP kd0) hE hP hS rfl hl.1 rfl (Nat.le_of_ble_eq_true rfl) dX5_shared_13 ⟨Nat.zero_le _, Nat.zero_le _⟩ (fun r13 σ13 H locs h hP hS => ?_)
  exact zr_I hx hb hr hlocks hP hS h dX5_shared_16
theorem hd_X5_sentWith : yX5_sentWith.cls ≠ "java/lang/invoke/MethodHandle" ∧ yX5_sentWith.cls ≠ "java/lang/invoke/VarHandle" ∧ (parseMethodDescriptor yX5_sentWith.desc).map (fun d => d.parameters.length) = some 1 := by decide +kernel
set_option maxHeartbeats 4000000 in
set_option maxRecDepth 100000 in
theorem mt_X5_sentWith (l : Launch) {Z : ZW} (hZ : isC Z) (σ : SS) (sz : Nat) (x0 : Int32) (K : SS → Int32 → Prop) (h : wp_X5_sentWith σ x0 K) : mtZ l yX5_sentWith wsX5_sentWith (rm9 0 0) Z [.int x0] σ sz (qcI Z K sz) := by
  refine Met.ofW (cc := cX5_sentWith) (maxL := 1) (ret := (some .int)) (by decide) rfl ?_
  intro p e s m args below meth c s₁ B hml hv
  obtain ⟨hargs, hsz, hP, hE1, hE2, hE3⟩ := hv
  subst hsz
  have hE : envZ Z s := ⟨hE1, hE2, hE3⟩
  have hx := B.exec
  have hb := B.bytes
  have hr := B.returns
  have hlocks := B.notSynchronized
  have hts := atoms_spec (ws := wsX5_sentWith) B.pre
  have hown : s.vm.findClass RX5 = some m.cls := findClass_of_methodNamed B.named
  have hS : SZ Z s s.heap [] := va_S.rf
  obtain ⟨ls, hef, hl⟩ := z_entry m hargs (n := 1) (Nat.le_of_ble_eq_true rfl)
  rw [hef]
  have hl : lv_has ls 1 [(0, .int x0)] := hl
  unfold wp_X5_sentWith at h
  refine lv_iload_n hx hb dX5_sentWith_0 rfl (lv_at hl 0 rfl) ?_
  refine lv_iconst (v := 1) hx hb dX5_sentWith_1 (by decide) ?_
  refine lv_icmp_ge (tgt := 9) hx hb dX5_sentWith_2 (by decide) (fun hc => ?_) (fun hc => ?_)
  · have h := h.1 hc
    refine lv_sipush (v := 1000) hx hb dX5_sentWith_9 (by decide) ?_
    refine lv_iload_n hx hb dX5_sentWith_12 rfl (lv_at hl 0 rfl) ?_
    obtain ⟨hne, h⟩ := h
    refine lv_idiv hx hb dX5_sentWith_13 hne ?_
    refine lv_iconst (v := 1) hx hb dX5_sentWith_14 (by decide) ?_
    refine lv_iadd hx hb dX5_sentWith_15 ?_
    exact zr_I hx hb hr hlocks hP hS h dX5_sentWith_16
  · have h := h.2 hc
    refine lv_iconst (v := 0) hx hb dX5_sentWith_5 (by decide) ?_
    refine lv_goto (tgt := 16) hx hb dX5_sentWith_6 (by decide) ?_
    exact zr_I hx hb hr hlocks hP hS h dX5_sentWith_16
theorem hd_X5_saved : yX5_saved.cls = RX5 ∧ yX5_saved.cls ≠ "java/lang/invoke/MethodHandle" ∧ yX5_saved.cls ≠ "java/lang/invoke/VarHandle" ∧ (parseMethodDescriptor yX5_saved.desc).map (fun d => d.parameters.length) = some 0 := by decide +kernel
set_option maxHeartbeats 4000000 in
set_option maxRecDepth 100000 in
theorem mt_X5_saved (l : Launch) {Z : ZW} (hZ : isC Z) (σ : SS) (sz : Nat) (K : SS → Int32 → Prop) (h : wp_X5_saved σ K) : mtZ l yX5_saved wsX5_saved (rm9 5 121) Z [.ref (zq Z 0)] σ sz (qcI Z K sz) := by
  refine Met.ofW (cc := cX5_saved) (maxL := 4) (ret := (some .int)) (by decide) rfl ?_
  intro p e s m args below meth c s₁ B hml hv
  obtain ⟨hargs, hsz, hP, hE1, hE2, hE3⟩ := hv
  subst hsz
  have hE : envZ Z s := ⟨hE1, hE2, hE3⟩
  have hx := B.exec
  have hb := B.bytes
  have hr := B.returns
  have hlocks := B.notSynchronized
  have hts := atoms_spec (ws := wsX5_saved) B.pre
  have hown : s.vm.findClass RX5 = some m.cls := findClass_of_methodNamed B.named
  have hS : SZ Z s s.heap [] := va_S.rf
  obtain ⟨ls, hef, hl⟩ := z_entry m hargs (n := 4) (Nat.le_of_ble_eq_true rfl)
  rw [hef]
  have hl : lv_has ls 4 [(0, .ref (zq Z 0))] := hl
  have in5 : ∀ w ∈ u_ws RX5 TX5 15, w ∈ wsX5_saved := by decide +kernel
  have lk140 := hts (.fieldLink RX5 140 "BeatDoubts" "watcherCount" "I") (by decide +kernel)
  have lk214 := hts (.constant RX5 214 (-2147483648)) (by decide +kernel)
  have B24 : ∀ (n : Nat) (σ : SS) (x1 : Int32) (x2 : Int32) (x3 : Int32) (H : Heap) (locs : List Loc) (ls : Array Slot), fx4 (lb_X5_saved_24 K) n σ x1 x2 x3 → PZ Z σ H → SZ Z s H locs → lv_has ls 4 [(0, .ref (zq Z 0)), (1, .int x1), (2, .int x2), (3, .int x3)] → W p l e (headSpec wsX5_saved (rm9 5 121)).room s m args below meth c H locs 0 0 (MQ below (qcI Z K s.heap.size) args s 0 0 (aZ Z s.heap.size)) (F0 m 24 ls []) := by
    intro n24
    induction n24 with
    | zero => intro σ x1 x2 x3 H locs ls h; exact h.elim
    | succ n24 ih24 =>
      intro σ x1 x2 x3 H locs ls h hP hS hl
      have h : lb_X5_saved_24 K (fx4 (lb_X5_saved_24 K) n24) σ x1 x2 x3 := h
      unfold lb_X5_saved_24 at h
      refine lv_iload_n hx hb dX5_saved_24 rfl (lv_at hl 3 rfl) ?_
      refine lv_aload_n hx hb dX5_saved_25 rfl (lv_at hl 0 rfl) ?_
      refine fg_5_6 hZ hx hb hts in5 hown hE hP kd0 lk140 dX5_saved_26 ?_
      refine lv_icmp_ge (tgt := 49) hx hb dX5_saved_29 (by decide) (fun hc => ?_) (fun hc => ?_)
      · have h := h.1 hc
        refine lv_iload_n hx hb dX5_saved_49 rfl (lv_at hl 2 rfl) ?_
        refine lv_iload_n hx hb dX5_saved_50 rfl (lv_at hl 1 rfl) ?_
        refine zc_SI (As := [.int x1]) (rest := [.int x2]) ⟨hx, hb, hml, hown, hts⟩ (va_cwS 1 hts gX5_saved_X5_sentWith rfl rfl rfl hd_X5_sentWith ⟨Nat.le_of_ble_eq_true rfl, Nat.le_of_ble_eq_true rfl⟩) (mt_X5_sentWith l hZ σ _ x1 _ h) hE hP hS rfl hl.1 rfl (Nat.le_of_ble_eq_true rfl) dX5_saved_51 ⟨Nat.zero_le _, Nat.zero_le _⟩ (fun r51 σ51 H locs h hP hS => ?_)
        refine lv_isub hx hb dX5_saved_54 ?_
        exact zr_I hx hb hr hlocks hP hS h dX5_saved_55
      · have h := h.2 hc
        refine lv_iload_n hx hb dX5_saved_32 rfl (lv_at hl 2 rfl) ?_
        refine lv_aload_n hx hb dX5_saved_33 rfl (lv_at hl 0 rfl) ?_
        refine lv_iload_n hx hb dX5_saved_34 rfl (lv_at hl 3 rfl) ?_
        refine zc_VI (As := [.int x3]) (rest := [.int x2]) ⟨hx, hb, hml, hown, hts⟩ (cwV 1 hts gX5_saved_X5_longest rfl rfl rfl hd_X5_longest ⟨Nat.le_of_ble_eq_true rfl, Nat.le_of_ble_eq_true rfl⟩) (mt_X5_longest l hZ σ _ x3 _ h) (rc_5 hZ hE hP kd0) hE hP hS rfl hl.1 rfl (Nat.le_of_ble_eq_true rfl) dX5_saved_35 ⟨Nat.zero_le _, Nat.zero_le _⟩ (fun r35 σ35 H locs h hP hS => ?_)
        refine zc_SI (As := [.int r35]) (rest := [.int x2]) ⟨hx, hb, hml, hown, hts⟩ (va_cwS 1 hts gX5_saved_X5_sentWith rfl rfl rfl hd_X5_sentWith ⟨Nat.le_of_ble_eq_true rfl, Nat.le_of_ble_eq_true rfl⟩) (mt_X5_sentWith l hZ σ35 _ r35 _ h) hE hP hS rfl hl.1 rfl (Nat.le_of_ble_eq_true rfl) dX5_saved_38 ⟨Nat.zero_le _, Nat.zero_le _⟩ (fun r38 σ38 H locs h hP hS => ?_)
        refine lv_iadd hx hb dX5_saved_41 ?_
        refine lv_istore_n (lv' := [(2, .int (x2 + r38)), (0, .ref (zq Z 0)), (1, .int x1), (3, .int x3)]) hx hb dX5_saved_42 rfl hl (by decide) rfl (fun ls hl => ?_)
        refine lv_iinc (v := (x3 + 1)) (lv' := [(3, .int (x3 + 1)), (2, .int (x2 + r38)), (0, .ref (zq Z 0)), (1, .int x1)]) hx hb dX5_saved_43 hl (k := 3) rfl rfl (by decide) rfl (fun ls hl => ?_)
        refine lv_goto (tgt := 24) hx hb dX5_saved_46 (by decide) ?_
        exact ih24 σ38 x1 (x2 + r38) (x3 + 1) _ _ _ h hP hS (lv_sub hl [2, 3, 1, 0] rfl)
  unfold wp_X5_saved at h
  refine lv_aload_n hx hb dX5_saved_0 rfl (lv_at hl 0 rfl) ?_
  refine zc_VI (As := []) (rest := []) ⟨hx, hb, hml, hown, hts⟩ (cwV 0 hts gX5_saved_X5_shared rfl rfl rfl hd_X5_shared ⟨Nat.le_of_ble_eq_true rfl, Nat.le_of_ble_eq_true rfl⟩) (mt_X5_shared l hZ σ _  _ h) (rc_5 hZ hE hP kd0) hE hP hS rfl hl.1 rfl (Nat.le_of_ble_eq_true rfl) dX5_saved_1 ⟨Nat.zero_le _, Nat.zero_le _⟩ (fun r1 σ1 H locs h hP hS => ?_)
  refine lv_istore_n (lv' := [(1, .int r1), (0, .ref (zq Z 0))]) hx hb dX5_saved_4 rfl hl (by decide) rfl (fun ls hl => ?_)
  refine lv_iload_n hx hb dX5_saved_5 rfl (lv_at hl 0 rfl) ?_
  refine lv_iconst (v := (-1)) hx hb dX5_saved_6 (by decide) ?_
  refine lv_icmp_eq (tgt := 17) hx hb dX5_saved_7 (by decide) (fun hc => ?_) (fun hc => ?_)
  · have h := h.1 hc
    refine lv_ldc (v := (-2147483648)) hx hb hown lk214 dX5_saved_17 ?_
    exact zr_I hx hb hr hlocks hP hS h dX5_saved_19
  · have h := h.2 hc
    refine lv_aload_n hx hb dX5_saved_10 rfl (lv_at hl 1 rfl) ?_
    refine fg_5_6 hZ hx hb hts in5 hown hE hP kd0 lk140 dX5_saved_11 ?_
    refine lv_if_ne (tgt := 20) hx hb dX5_saved_14 (by decide) (fun hc => ?_) (fun hc => ?_)
    · have h := h.1 hc
      refine lv_iconst (v := 0) hx hb dX5_saved_20 (by decide) ?_
      refine lv_istore_n (lv' := [(2, .int 0), (1, .int r1), (0, .ref (zq Z 0))]) hx hb dX5_saved_21 rfl hl (by decide) rfl (fun ls hl => ?_)
      refine lv_iconst (v := 0) hx hb dX5_saved_22 (by decide) ?_
      refine lv_istore_n (lv' := [(3, .int 0), (2, .int 0), (1, .int r1), (0, .ref (zq Z 0))]) hx hb dX5_saved_23 rfl hl (by decide) rfl (fun ls hl => ?_)
      obtain ⟨n, h⟩ := h
      exact B24 n σ1 r1 0 0 _ _ _ h hP hS (lv_sub hl [3, 2, 1, 0] rfl)
    · have h := h.2 hc
      refine lv_ldc (v := (-2147483648)) hx hb hown lk214 dX5_saved_17 ?_
      exact zr_I hx hb hr hlocks hP hS h dX5_saved_19
theorem hd_X5_sheet : yX5_sheet.cls = RX5 ∧ yX5_sheet.cls ≠ "java/lang/invoke/MethodHandle" ∧ yX5_sheet.cls ≠ "java/lang/invoke/VarHandle" ∧ (parseMethodDescriptor yX5_sheet.desc).map (fun d => d.parameters.length) = some 3 := by decide +kernel
set_option maxHeartbeats 4000000 in
set_option maxRecDepth 100000 in
theorem mt_X5_sheet (l : Launch) {Z : ZW} (hZ : isC Z) (σ : SS) (sz : Nat) (x1 : Int32) (x2 : Int32) (x3 : Int32) (K : SS → Int32 → Prop) (h : wp_X5_sheet σ x1 x2 x3 K) : mtZ l yX5_sheet wsX5_sheet (rm9 2 46) Z [.ref (zq Z 0), .int x1, .int x2, .int x3] σ sz (qcI Z K sz) := by
  refine Met.ofW (cc := cX5_sheet) (maxL := 4) (ret := (some .int)) (by decide) rfl ?_
  intro p e s m args below meth c s₁ B hml hv
  obtain ⟨hargs, hsz, hP, hE1, hE2, hE3⟩ := hv
  subst hsz
  have hE : envZ Z s := ⟨hE1, hE2, hE3⟩
  have hx := B.exec
  have hb := B.bytes
  have hr := B.returns
  have hlocks := B.notSynchronized
  have hts := atoms_spec (ws := wsX5_sheet) B.pre
  have hown : s.vm.findClass RX5 = some m.cls := findClass_of_methodNamed B.named
  have hS : SZ Z s s.heap [] := va_S.rf
  obtain ⟨ls, hef, hl⟩ := z_entry m hargs (n := 4) (Nat.le_of_ble_eq_true rfl)
  rw [hef]
  have hl : lv_has ls 4 [(0, .ref (zq Z 0)), (1, .int x1), (2, .int x2), (3, .int x3)] := hl
  have in5 : ∀ w ∈ u_ws RX5 TX5 15, w ∈ wsX5_sheet := by decide +kernel
  have lk32 := hts (.fieldLink RX5 32 "BeatDoubts" "sheets" "[LBeatDoubts$Sheet;") (by decide +kernel)
  unfold wp_X5_sheet at h
  refine lv_iload_n hx hb dX5_sheet_0 rfl (lv_at hl 1 rfl) ?_
  refine zc_SI (As := [.int x1]) (rest := []) ⟨hx, hb, hml, hown, hts⟩ (va_cwS 1 hts gX5_sheet_X5_isSheet rfl rfl rfl hd_X5_isSheet ⟨Nat.le_of_ble_eq_true rfl, Nat.le_of_ble_eq_true rfl⟩) (mt_X5_isSheet l hZ σ _ x1 _ h) hE hP hS rfl hl.1 rfl (Nat.le_of_ble_eq_true rfl) dX5_sheet_1 ⟨Nat.zero_le _, Nat.zero_le _⟩ (fun r1 σ1 H locs h hP hS => ?_)
  refine lv_if_eq (tgt := 23) hx hb dX5_sheet_4 (by decide) (fun hc => ?_) (fun hc => ?_)
  · have h := h.1 hc
    refine lv_bipush (v := (-2)) hx hb dX5_sheet_23 (by decide) ?_
    exact zr_I hx hb hr hlocks hP hS h dX5_sheet_25
  · have h := h.2 hc
    refine lv_iload_n hx hb dX5_sheet_7 rfl (lv_at hl 2 rfl) ?_
    refine lv_i2l hx hb dX5_sheet_8 rfl ?_
    refine lv_iconst (v := 0) hx hb dX5_sheet_9 (by decide) ?_
    refine lv_iconst (v := 1) hx hb dX5_sheet_10 (by decide) ?_
    refine zc_SI (As := [.long x2.toInt64, .int 0, .int 1]) (rest := []) ⟨hx, hb, hml, hown, hts⟩ (va_cwS 3 hts gX5_sheet_X5_isWithin rfl rfl rfl hd_X5_isWithin ⟨Nat.le_of_ble_eq_true rfl, Nat.le_of_ble_eq_true rfl⟩) (mt_X5_isWithin l hZ σ1 _ x2.toInt64 0 1 _ h) hE hP hS rfl hl.1 rfl (Nat.le_of_ble_eq_true rfl) dX5_sheet_11 ⟨Nat.zero_le _, Nat.zero_le _⟩ (fun r11 σ11 H locs h hP hS => ?_)
    refine lv_if_eq (tgt := 23) hx hb dX5_sheet_14 (by decide) (fun hc => ?_) (fun hc => ?_)
    · have h := h.1 hc
      refine lv_bipush (v := (-2)) hx hb dX5_sheet_23 (by decide) ?_
      exact zr_I hx hb hr hlocks hP hS h dX5_sheet_25
    · have h := h.2 hc
      refine lv_iload_n hx hb dX5_sheet_17 rfl (lv_at hl 3 rfl) ?_
      refine lv_bipush (v := 40) hx hb dX5_sheet_18 (by decide) ?_
      refine lv_icmp_le (tgt := 26) hx hb dX5_sheet_20 (by decide) (fun hc => ?_) (fun hc => ?_)
      · have h := h.1 hc
        refine lv_iload_n hx hb dX5_sheet_26 rfl (lv_at hl 3 rfl) ?_
        refine lv_if_ge (tgt := 36) hx hb dX5_sheet_27 (by decide) (fun hc => ?_) (fun hc => ?_)
        · have h := h.1 hc
          refine lv_aload_n hx hb dX5_sheet_36 rfl (lv_at hl 0 rfl) ?_
          refine fg_5_7 hZ hx hb hts in5 hown hE hP kd0 lk32 dX5_sheet_37 ?_
          refine lv_iload_n hx hb dX5_sheet_40 rfl (lv_at hl 1 rfl) ?_
          obtain ⟨hin41, h⟩ := h
          refine al_17 hZ hx hb hE hP kr_5_7 hin41 dX5_sheet_41 ?_
          refine lv_iload_n hx hb dX5_sheet_42 rfl (lv_at hl 2 rfl) ?_
          refine lv_iload_n hx hb dX5_sheet_43 rfl (lv_at hl 3 rfl) ?_
          refine zc_VV (As := [.int x2, .int x3]) (rest := []) ⟨hx, hb, hml, hown, hts⟩ (cwV 2 hts gX5_sheet_X3_begin rfl rfl rfl hd_X3_begin ⟨Nat.le_of_ble_eq_true rfl, Nat.le_of_ble_eq_true rfl⟩) (mt_X3_begin l hZ σ11 _ (kSi hin41) x2 x3 _ h) (rc_3 hZ hE hP (kSi hin41)) hE hP hS rfl hl.1 rfl (Nat.le_of_ble_eq_true rfl) dX5_sheet_44 ⟨Nat.zero_le _, Nat.zero_le _⟩ (fun σ44 H locs h hP hS => ?_)
          refine lv_iload_n hx hb dX5_sheet_47 rfl (lv_at hl 3 rfl) ?_
          exact zr_I hx hb hr hlocks hP hS h dX5_sheet_48
        · have h := h.2 hc
          refine lv_aload_n hx hb dX5_sheet_30 rfl (lv_at hl 0 rfl) ?_
          refine lv_iconst (v := 5) hx hb dX5_sheet_31 (by decide) ?_
          refine zc_VI (As := [.int 5]) (rest := []) ⟨hx, hb, hml, hown, hts⟩ (cwV 1 hts gX5_sheet_X5_find rfl rfl rfl hd_X5_find ⟨Nat.le_of_ble_eq_true rfl, Nat.le_of_ble_eq_true rfl⟩) (mt_X5_find l hZ σ11 _ 5 _ h) (rc_5 hZ hE hP kd0) hE hP hS rfl hl.1 rfl (Nat.le_of_ble_eq_true rfl) dX5_sheet_32 ⟨Nat.zero_le _, Nat.zero_le _⟩ (fun r32 σ32 H locs h hP hS => ?_)
          exact zr_I hx hb hr hlocks hP hS h dX5_sheet_35
      · have h := h.2 hc
        refine lv_bipush (v := (-2)) hx hb dX5_sheet_23 (by decide) ?_
        exact zr_I hx hb hr hlocks hP hS h dX5_sheet_25
theorem hd_X5_lose : yX5_lose.cls = RX5 ∧ yX5_lose.cls ≠ "java/lang/invoke/MethodHandle" ∧ yX5_lose.cls ≠ "java/lang/invoke/VarHandle" ∧ (parseMethodDescriptor yX5_lose.desc).map (fun d => d.parameters.length) = some 1 := by decide +kernel
set_option maxHeartbeats 4000000 in
set_option maxRecDepth 100000 in
theorem mt_X5_lose (l : Launch) {Z : ZW} (hZ : isC Z) (σ : SS) (sz : Nat) (x1 : Int32) (K : SS → Int32 → Prop) (h : wp_X5_lose σ x1 K) : mtZ l yX5_lose wsX5_lose (rm9 2 43) Z [.ref (zq Z 0), .int x1] σ sz (qcI Z K sz) := by
  refine Met.ofW (cc := cX5_lose) (maxL := 2) (ret := (some .int)) (by decide) rfl ?_
  intro p e s m args below meth c s₁ B hml hv
  obtain ⟨hargs, hsz, hP, hE1, hE2, hE3⟩ := hv
  subst hsz
  have hE : envZ Z s := ⟨hE1, hE2, hE3⟩
  have hx := B.exec
  have hb := B.bytes
  have hr := B.returns
  have hlocks := B.notSynchronized
  have hts := atoms_spec (ws := wsX5_lose) B.pre
  have hown : s.vm.findClass RX5 = some m.cls := findClass_of_methodNamed B.named
  have hS : SZ Z s s.heap [] := va_S.rf
  obtain ⟨ls, hef, hl⟩ := z_entry m hargs (n := 2) (Nat.le_of_ble_eq_true rfl)
  rw [hef]
  have hl : lv_has ls 2 [(0, .ref (zq Z 0)), (1, .int x1)] := hl
  have in3 : ∀ w ∈ u_ws RX3 TX3 6, w ∈ wsX5_lose := by decide +kernel
  have in5 : ∀ w ∈ u_ws RX5 TX5 15, w ∈ wsX5_lose := by decide +kernel
  have lk228 := hts (.fieldLink RX5 228 "BeatDoubts$Sheet" "isLost" "Z") (by decide +kernel)
  have lk32 := hts (.fieldLink RX5 32 "BeatDoubts" "sheets" "[LBeatDoubts$Sheet;") (by decide +kernel)
  have lk87 := hts (.fieldLink RX5 87 "BeatDoubts$Sheet" "size" "I") (by decide +kernel)
  unfold wp_X5_lose at h
  refine lv_iload_n hx hb dX5_lose_0 rfl (lv_at hl 1 rfl) ?_
  refine zc_SI (As := [.int x1]) (rest := []) ⟨hx, hb, hml, hown, hts⟩ (va_cwS 1 hts gX5_lose_X5_isSheet rfl rfl rfl hd_X5_isSheet ⟨Nat.le_of_ble_eq_true rfl, Nat.le_of_ble_eq_true rfl⟩) (mt_X5_isSheet l hZ σ _ x1 _ h) hE hP hS rfl hl.1 rfl (Nat.le_of_ble_eq_true rfl) dX5_lose_1 ⟨Nat.zero_le _, Nat.zero_le _⟩ (fun r1 σ1 H locs h hP hS => ?_)
  refine lv_if_ne (tgt := 10) hx hb dX5_lose_4 (by decide) (fun hc => ?_) (fun hc => ?_)
  · have h := h.1 hc
    refine lv_aload_n hx hb dX5_lose_10 rfl (lv_at hl 0 rfl) ?_
    refine fg_5_7 hZ hx hb hts in5 hown hE hP kd0 lk32 dX5_lose_11 ?_
    refine lv_iload_n hx hb dX5_lose_14 rfl (lv_at hl 1 rfl) ?_
    obtain ⟨hin15, h⟩ := h
    refine al_17 hZ hx hb hE hP kr_5_7 hin15 dX5_lose_15 ?_
    refine fg_3_0 hZ hx hb hts in3 hown hE hP (kSi hin15) lk228 dX5_lose_16 ?_
    refine lv_if_eq (tgt := 28) hx hb dX5_lose_19 (by decide) (fun hc => ?_) (fun hc => ?_)
    · have h := h.1 hc
      refine lv_aload_n hx hb dX5_lose_28 rfl (lv_at hl 0 rfl) ?_
      refine fg_5_7 hZ hx hb hts in5 hown hE hP kd0 lk32 dX5_lose_29 ?_
      refine lv_iload_n hx hb dX5_lose_32 rfl (lv_at hl 1 rfl) ?_
      obtain ⟨hin33, h⟩ := h
      refine al_17 hZ hx hb hE hP kr_5_7 hin33 dX5_lose_33 ?_
      refine lv_iconst (v := 1) hx hb dX5_lose_34 (by decide) ?_
      refine fp_3_0 hZ hx hb hts in3 hown hE hP hS (kSi hin33) lk228 (by decide) dX5_lose_35 (fun H locs hP hS => ?_)
      refine lv_aload_n hx hb dX5_lose_38 rfl (lv_at hl 0 rfl) ?_
      refine fg_5_7 hZ hx hb hts in5 hown hE hP kd0 lk32 dX5_lose_39 ?_
      refine lv_iload_n hx hb dX5_lose_42 rfl (lv_at hl 1 rfl) ?_
      obtain ⟨hin43, h⟩ := h
      refine al_17 hZ hx hb hE hP kr_5_7 hin43 dX5_lose_43 ?_
      refine fg_3_2 hZ hx hb hts in3 hown hE hP (kSi hin43) lk87 dX5_lose_44 ?_
      exact zr_I hx hb hr hlocks hP hS h dX5_lose_47
    · have h := h.2 hc
      refine lv_aload_n hx hb dX5_lose_22 rfl (lv_at hl 0 rfl) ?_
      refine lv_iconst (v := 1) hx hb dX5_lose_23 (by decide) ?_
      refine zc_VI (As := [.int 1]) (rest := []) ⟨hx, hb, hml, hown, hts⟩ (cwV 1 hts gX5_lose_X5_find rfl rfl rfl hd_X5_find ⟨Nat.le_of_ble_eq_true rfl, Nat.le_of_ble_eq_true rfl⟩) (mt_X5_find l hZ σ1 _ 1 _ h) (rc_5 hZ hE hP kd0) hE hP hS rfl hl.1 rfl (Nat.le_of_ble_eq_true rfl) dX5_lose_24 ⟨Nat.zero_le _, Nat.zero_le _⟩ (fun r24 σ24 H locs h hP hS => ?_)
      exact zr_I hx hb hr hlocks hP hS h dX5_lose_27
  · have h := h.2 hc
    refine lv_bipush (v := (-2)) hx hb dX5_lose_7 (by decide) ?_
    exact zr_I hx hb hr hlocks hP hS h dX5_lose_9
theorem hd_X5_put : yX5_put.cls = RX5 ∧ yX5_put.cls ≠ "java/lang/invoke/MethodHandle" ∧ yX5_put.cls ≠ "java/lang/invoke/VarHandle" ∧ (parseMethodDescriptor yX5_put.desc).map (fun d => d.parameters.length) = some 4 := by decide +kernel
set_option maxHeartbeats 4000000 in
set_option maxRecDepth 100000 in
theorem mt_X5_put (l : Launch) {Z : ZW} (hZ : isC Z) (σ : SS) (sz : Nat) (x1 : Int32) (x2 : Int32) (x3 : Int32) (x4 : Int32) (K : SS → Int32 → Prop) (h : wp_X5_put σ x1 x2 x3 x4 K) : mtZ l yX5_put wsX5_put (rm9 3 65) Z [.ref (zq Z 0), .int x1, .int x2, .int x3, .int x4] σ sz (qcI Z K sz) := by
  refine Met.ofW (cc := cX5_put) (maxL := 6) (ret := (some .int)) (by decide) rfl ?_
  intro p e s m args below meth c s₁ B hml hv
  obtain ⟨hargs, hsz, hP, hE1, hE2, hE3⟩ := hv
  subst hsz
  have hE : envZ Z s := ⟨hE1, hE2, hE3⟩
  have hx := B.exec
  have hb := B.bytes
  have hr := B.returns
  have hlocks := B.notSynchronized
  have hts := atoms_spec (ws := wsX5_put) B.pre
  have hown : s.vm.findClass RX5 = some m.cls := findClass_of_methodNamed B.named
  have hS : SZ Z s s.heap [] := va_S.rf
  obtain ⟨ls, hef, hl⟩ := z_entry m hargs (n := 6) (Nat.le_of_ble_eq_true rfl)
  rw [hef]
  have hl : lv_has ls 6 [(0, .ref (zq Z 0)), (1, .int x1), (2, .int x2), (3, .int x3), (4, .int x4)] := hl
  have in3 : ∀ w ∈ u_ws RX3 TX3 6, w ∈ wsX5_put := by decide +kernel
  have in5 : ∀ w ∈ u_ws RX5 TX5 15, w ∈ wsX5_put := by decide +kernel
  have lk235 := hts (.constantDouble RX5 235 (4620693217682128896)) (by decide +kernel)
  have lk32 := hts (.fieldLink RX5 32 "BeatDoubts" "sheets" "[LBeatDoubts$Sheet;") (by decide +kernel)
  have lk90 := hts (.fieldLink RX5 90 "BeatDoubts$Sheet" "longs" "[J") (by decide +kernel)
  unfold wp_X5_put at h
  refine lv_iload_n hx hb dX5_put_0 rfl (lv_at hl 2 rfl) ?_
  refine lv_i2l hx hb dX5_put_1 rfl ?_
  refine lv_iconst (v := 0) hx hb dX5_put_2 (by decide) ?_
  refine lv_iconst (v := 1) hx hb dX5_put_3 (by decide) ?_
  refine zc_SI (As := [.long x2.toInt64, .int 0, .int 1]) (rest := []) ⟨hx, hb, hml, hown, hts⟩ (va_cwS 3 hts gX5_put_X5_isWithin rfl rfl rfl hd_X5_isWithin ⟨Nat.le_of_ble_eq_true rfl, Nat.le_of_ble_eq_true rfl⟩) (mt_X5_isWithin l hZ σ _ x2.toInt64 0 1 _ h) hE hP hS rfl hl.1 rfl (Nat.le_of_ble_eq_true rfl) dX5_put_4 ⟨Nat.zero_le _, Nat.zero_le _⟩ (fun r4 σ4 H locs h hP hS => ?_)
  refine lv_if_ne (tgt := 13) hx hb dX5_put_7 (by decide) (fun hc => ?_) (fun hc => ?_)
  · have h := h.1 hc
    refine lv_aload_n hx hb dX5_put_13 rfl (lv_at hl 0 rfl) ?_
    refine lv_iload_n hx hb dX5_put_14 rfl (lv_at hl 1 rfl) ?_
    refine lv_iload_n hx hb dX5_put_15 rfl (lv_at hl 2 rfl) ?_
    refine zc_VI (As := [.int x1, .int x2]) (rest := []) ⟨hx, hb, hml, hown, hts⟩ (cwV 2 hts gX5_put_X5_refusalOfRow rfl rfl rfl hd_X5_refusalOfRow ⟨Nat.le_of_ble_eq_true rfl, Nat.le_of_ble_eq_true rfl⟩) (mt_X5_refusalOfRow l hZ σ4 _ x1 x2 _ h) (rc_5 hZ hE hP kd0) hE hP hS rfl hl.1 rfl (Nat.le_of_ble_eq_true rfl) dX5_put_16 ⟨Nat.zero_le _, Nat.zero_le _⟩ (fun r16 σ16 H locs h hP hS => ?_)
    refine lv_istore (lv' := [(5, .int r16), (0, .ref (zq Z 0)), (1, .int x1), (2, .int x2), (3, .int x3), (4, .int x4)]) hx hb dX5_put_19 hl (by decide) rfl (fun ls hl => ?_)
    refine lv_iload hx hb dX5_put_21 (lv_at hl 0 rfl) ?_
    refine lv_if_eq (tgt := 29) hx hb dX5_put_23 (by decide) (fun hc => ?_) (fun hc => ?_)
    · have h := h.1 hc
      refine lv_aload_n hx hb dX5_put_29 rfl (lv_at hl 1 rfl) ?_
      refine fg_5_7 hZ hx hb hts in5 hown hE hP kd0 lk32 dX5_put_30 ?_
      refine lv_iload_n hx hb dX5_put_33 rfl (lv_at hl 2 rfl) ?_
      obtain ⟨hin34, h⟩ := h
      refine al_17 hZ hx hb hE hP kr_5_7 hin34 dX5_put_34 ?_
      refine lv_iload_n hx hb dX5_put_35 rfl (lv_at hl 4 rfl) ?_
      refine lv_iconst (v := 1) hx hb dX5_put_36 (by decide) ?_
      refine zc_VI (As := [.int x3, .int 1]) (rest := []) ⟨hx, hb, hml, hown, hts⟩ (cwV 2 hts gX5_put_X3_hasItems rfl rfl rfl hd_X3_hasItems ⟨Nat.le_of_ble_eq_true rfl, Nat.le_of_ble_eq_true rfl⟩) (mt_X3_hasItems l hZ σ16 _ (kSi hin34) x3 1 _ h) (rc_3 hZ hE hP (kSi hin34)) hE hP hS rfl hl.1 rfl (Nat.le_of_ble_eq_true rfl) dX5_put_37 ⟨Nat.zero_le _, Nat.zero_le _⟩ (fun r37 σ37 H locs h hP hS => ?_)
      refine lv_if_ne (tgt := 49) hx hb dX5_put_40 (by decide) (fun hc => ?_) (fun hc => ?_)
      · have h := h.1 hc
        refine lv_iload_n hx hb dX5_put_49 rfl (lv_at hl 3 rfl) ?_
        refine lv_if_ne (tgt := 70) hx hb dX5_put_50 (by decide) (fun hc => ?_) (fun hc => ?_)
        · have h := h.1 hc
          refine lv_aload_n hx hb dX5_put_70 rfl (lv_at hl 1 rfl) ?_
          refine fg_5_7 hZ hx hb hts in5 hown hE hP kd0 lk32 dX5_put_71 ?_
          refine lv_iload_n hx hb dX5_put_74 rfl (lv_at hl 2 rfl) ?_
          obtain ⟨hin75, h⟩ := h
          refine al_17 hZ hx hb hE hP kr_5_7 hin75 dX5_put_75 ?_
          refine lv_iload_n hx hb dX5_put_76 rfl (lv_at hl 4 rfl) ?_
          refine lv_iload hx hb dX5_put_77 (lv_at hl 5 rfl) ?_
          refine lv_i2d hx hb dX5_put_79 ?_
          refine lv_ldc2d (v := 4620693217682128896) hx hb hown lk235 dX5_put_80 ?_
          obtain ⟨hne, h⟩ := h
          refine lv_ddiv hx hb dX5_put_83 hne ?_
          refine zc_VV (As := [.int x3, .double (FP.ddiv (FP.i2d x4) 4620693217682128896)]) (rest := []) ⟨hx, hb, hml, hown, hts⟩ (cwV 2 hts gX5_put_X3_putNumber rfl rfl rfl hd_X3_putNumber ⟨Nat.le_of_ble_eq_true rfl, Nat.le_of_ble_eq_true rfl⟩) (mt_X3_putNumber l hZ σ37 _ (kSi hin75) x3 (FP.ddiv (FP.i2d x4) 4620693217682128896) _ h) (rc_3 hZ hE hP (kSi hin75)) hE hP hS rfl hl.1 rfl (Nat.le_of_ble_eq_true rfl) dX5_put_84 ⟨Nat.zero_le _, Nat.zero_le _⟩ (fun σ84 H locs h hP hS => ?_)
          refine lv_iconst (v := 1) hx hb dX5_put_87 (by decide) ?_
          exact zr_I hx hb hr hlocks hP hS h dX5_put_88
        · have h := h.2 hc
          refine lv_aload_n hx hb dX5_put_53 rfl (lv_at hl 1 rfl) ?_
          refine fg_5_7 hZ hx hb hts in5 hown hE hP kd0 lk32 dX5_put_54 ?_
          refine lv_iload_n hx hb dX5_put_57 rfl (lv_at hl 2 rfl) ?_
          obtain ⟨hin58, h⟩ := h
          refine al_17 hZ hx hb hE hP kr_5_7 hin58 dX5_put_58 ?_
          refine fg_3_3 hZ hx hb hts in3 hown hE hP (kSi hin58) lk90 dX5_put_59 ?_
          refine lv_iload_n hx hb dX5_put_62 rfl (lv_at hl 4 rfl) ?_
          refine lv_iload hx hb dX5_put_63 (lv_at hl 5 rfl) ?_
          refine lv_i2l hx hb dX5_put_65 rfl ?_
          obtain ⟨hin, h⟩ := h
          refine as_14 hZ hx hb hE hP hS (kr_3_3 (kSi hin58)) hin dX5_put_66 (fun H locs hP hS => ?_)
          refine lv_goto (tgt := 87) hx hb dX5_put_67 (by decide) ?_
          refine lv_iconst (v := 1) hx hb dX5_put_87 (by decide) ?_
          exact zr_I hx hb hr hlocks hP hS h dX5_put_88
      · have h := h.2 hc
        refine lv_aload_n hx hb dX5_put_43 rfl (lv_at hl 1 rfl) ?_
        refine lv_iconst (v := 2) hx hb dX5_put_44 (by decide) ?_
        refine zc_VI (As := [.int 2]) (rest := []) ⟨hx, hb, hml, hown, hts⟩ (cwV 1 hts gX5_put_X5_find rfl rfl rfl hd_X5_find ⟨Nat.le_of_ble_eq_true rfl, Nat.le_of_ble_eq_true rfl⟩) (mt_X5_find l hZ σ37 _ 2 _ h) (rc_5 hZ hE hP kd0) hE hP hS rfl hl.1 rfl (Nat.le_of_ble_eq_true rfl) dX5_put_45 ⟨Nat.zero_le _, Nat.zero_le _⟩ (fun r45 σ45 H locs h hP hS => ?_)
        exact zr_I hx hb hr hlocks hP hS h dX5_put_48
    · have h := h.2 hc
      refine lv_iload hx hb dX5_put_26 (lv_at hl 0 rfl) ?_
      exact zr_I hx hb hr hlocks hP hS h dX5_put_28
  · have h := h.2 hc
    refine lv_bipush (v := (-2)) hx hb dX5_put_10 (by decide) ?_
    exact zr_I hx hb hr hlocks hP hS h dX5_put_12
theorem hd_X5_get : yX5_get.cls = RX5 ∧ yX5_get.cls ≠ "java/lang/invoke/MethodHandle" ∧ yX5_get.cls ≠ "java/lang/invoke/VarHandle" ∧ (parseMethodDescriptor yX5_get.desc).map (fun d => d.parameters.length) = some 2 := by decide +kernel
set_option maxHeartbeats 4000000 in
set_option maxRecDepth 100000 in
theorem mt_X5_get (l : Launch) {Z : ZW} (hZ : isC Z) (σ : SS) (sz : Nat) (x1 : Int32) (x2 : Int32) (K : SS → Int64 → Prop) (h : wp_X5_get σ x1 x2 K) : mtZ l yX5_get wsX5_get (rm9 2 43) Z [.ref (zq Z 0), .int x1, .int x2] σ sz (qcL Z K sz) := by
  refine Met.ofW (cc := cX5_get) (maxL := 4) (ret := (some .long)) (by decide) rfl ?_
  intro p e s m args below meth c s₁ B hml hv
  obtain ⟨hargs, hsz, hP, hE1, hE2, hE3⟩ := hv
  subst hsz
  have hE : envZ Z s := ⟨hE1, hE2, hE3⟩
  have hx := B.exec
  have hb := B.bytes
  have hr := B.returns
  have hlocks := B.notSynchronized
  have hts := atoms_spec (ws := wsX5_get) B.pre
  have hown : s.vm.findClass RX5 = some m.cls := findClass_of_methodNamed B.named
  have hS : SZ Z s s.heap [] := va_S.rf
  obtain ⟨ls, hef, hl⟩ := z_entry m hargs (n := 4) (Nat.le_of_ble_eq_true rfl)
  rw [hef]
  have hl : lv_has ls 4 [(0, .ref (zq Z 0)), (1, .int x1), (2, .int x2)] := hl
  have in3 : ∀ w ∈ u_ws RX3 TX3 6, w ∈ wsX5_get := by decide +kernel
  have in5 : ∀ w ∈ u_ws RX5 TX5 15, w ∈ wsX5_get := by decide +kernel
  have lk228 := hts (.fieldLink RX5 228 "BeatDoubts$Sheet" "isLost" "Z") (by decide +kernel)
  have lk235 := hts (.constantDouble RX5 235 (4620693217682128896)) (by decide +kernel)
  have lk241 := hts (.fieldLink RX5 241 "BeatDoubts$Sheet" "form" "I") (by decide +kernel)
  have lk244 := hts (.fieldLink RX5 244 "BeatDoubts$Sheet" "isNoNumber" "[Z") (by decide +kernel)
  have lk248 := hts (.fieldLink RX5 248 "BeatDoubts$Sheet" "doubles" "[D") (by decide +kernel)
  have lk32 := hts (.fieldLink RX5 32 "BeatDoubts" "sheets" "[LBeatDoubts$Sheet;") (by decide +kernel)
  have lk90 := hts (.fieldLink RX5 90 "BeatDoubts$Sheet" "longs" "[J") (by decide +kernel)
  unfold wp_X5_get at h
  refine lv_iload_n hx hb dX5_get_0 rfl (lv_at hl 1 rfl) ?_
  refine zc_SI (As := [.int x1]) (rest := []) ⟨hx, hb, hml, hown, hts⟩ (va_cwS 1 hts gX5_get_X5_isSheet rfl rfl rfl hd_X5_isSheet ⟨Nat.le_of_ble_eq_true rfl, Nat.le_of_ble_eq_true rfl⟩) (mt_X5_isSheet l hZ σ _ x1 _ h) hE hP hS rfl hl.1 rfl (Nat.le_of_ble_eq_true rfl) dX5_get_1 ⟨Nat.zero_le _, Nat.zero_le _⟩ (fun r1 σ1 H locs h hP hS => ?_)
  refine lv_if_ne (tgt := 13) hx hb dX5_get_4 (by decide) (fun hc => ?_) (fun hc => ?_)
  · have h := h.1 hc
    refine lv_aload_n hx hb dX5_get_13 rfl (lv_at hl 0 rfl) ?_
    refine fg_5_7 hZ hx hb hts in5 hown hE hP kd0 lk32 dX5_get_14 ?_
    refine lv_iload_n hx hb dX5_get_17 rfl (lv_at hl 1 rfl) ?_
    obtain ⟨hin18, h⟩ := h
    refine al_17 hZ hx hb hE hP kr_5_7 hin18 dX5_get_18 ?_
    refine lv_astore_n (lv' := [(3, .ref (zq Z (56 + 4 * x1.toNatClampNeg))), (0, .ref (zq Z 0)), (1, .int x1), (2, .int x2)]) hx hb dX5_get_19 rfl hl (by decide) rfl (fun ls hl => ?_)
    refine lv_aload_n hx hb dX5_get_20 rfl (lv_at hl 0 rfl) ?_
    refine fg_3_0 hZ hx hb hts in3 hown hE hP (kSi hin18) lk228 dX5_get_21 ?_
    refine lv_if_eq (tgt := 36) hx hb dX5_get_24 (by decide) (fun hc => ?_) (fun hc => ?_)
    · have h := h.1 hc
      refine lv_aload_n hx hb dX5_get_36 rfl (lv_at hl 0 rfl) ?_
      refine lv_iload_n hx hb dX5_get_37 rfl (lv_at hl 3 rfl) ?_
      refine lv_iconst (v := 1) hx hb dX5_get_38 (by decide) ?_
      refine zc_VI (As := [.int x2, .int 1]) (rest := []) ⟨hx, hb, hml, hown, hts⟩ (cwV 2 hts gX5_get_X3_hasItems rfl rfl rfl hd_X3_hasItems ⟨Nat.le_of_ble_eq_true rfl, Nat.le_of_ble_eq_true rfl⟩) (mt_X3_hasItems l hZ σ1 _ (kSi hin18) x2 1 _ h) (rc_3 hZ hE hP (kSi hin18)) hE hP hS rfl hl.1 rfl (Nat.le_of_ble_eq_true rfl) dX5_get_39 ⟨Nat.zero_le _, Nat.zero_le _⟩ (fun r39 σ39 H locs h hP hS => ?_)
      refine lv_if_ne (tgt := 54) hx hb dX5_get_42 (by decide) (fun hc => ?_) (fun hc => ?_)
      · have h := h.1 hc
        refine lv_aload_n hx hb dX5_get_54 rfl (lv_at hl 0 rfl) ?_
        refine fg_3_1 hZ hx hb hts in3 hown hE hP (kSi hin18) lk241 dX5_get_55 ?_
        refine lv_if_ne (tgt := 68) hx hb dX5_get_58 (by decide) (fun hc => ?_) (fun hc => ?_)
        · have h := h.1 hc
          refine lv_aload_n hx hb dX5_get_68 rfl (lv_at hl 0 rfl) ?_
          refine fg_3_5 hZ hx hb hts in3 hown hE hP (kSi hin18) lk244 dX5_get_69 ?_
          refine lv_iload_n hx hb dX5_get_72 rfl (lv_at hl 3 rfl) ?_
          obtain ⟨hin, h⟩ := h
          refine al_13 hZ hx hb hE hP (kr_3_5 (kSi hin18)) hin dX5_get_73 ?_
          refine lv_if_eq (tgt := 84) hx hb dX5_get_74 (by decide) (fun hc => ?_) (fun hc => ?_)
          · have h := h.1 hc
            refine lv_ldc2d (v := 4620693217682128896) hx hb hown lk235 dX5_get_84 ?_
            refine lv_aload_n hx hb dX5_get_87 rfl (lv_at hl 0 rfl) ?_
            refine fg_3_4 hZ hx hb hts in3 hown hE hP (kSi hin18) lk248 dX5_get_88 ?_
            refine lv_iload_n hx hb dX5_get_91 rfl (lv_at hl 3 rfl) ?_
            obtain ⟨hin, h⟩ := h
            refine al_15 hZ hx hb hE hP (kr_3_4 (kSi hin18)) hin dX5_get_92 ?_
            obtain ⟨hne, h⟩ := h
            refine lv_dmul hx hb dX5_get_93 hne ?_
            refine lv_d2l hx hb dX5_get_94 ?_
            exact zr_L hx hb hr hlocks hP hS h dX5_get_95
          · have h := h.2 hc
            refine lv_iconst (v := (-1)) hx hb dX5_get_77 (by decide) ?_
            refine zc_SL (As := [.int (-1)]) (rest := []) ⟨hx, hb, hml, hown, hts⟩ (va_cwS 1 hts gX5_get_X5_asLong rfl rfl rfl hd_X5_asLong ⟨Nat.le_of_ble_eq_true rfl, Nat.le_of_ble_eq_true rfl⟩) (mt_X5_asLong l hZ σ39 _ (-1) _ h) hE hP hS rfl hl.1 rfl (Nat.le_of_ble_eq_true rfl) dX5_get_78 ⟨Nat.zero_le _, Nat.zero_le _⟩ (fun r78 σ78 H locs h hP hS => ?_)
            refine lv_goto (tgt := 95) hx hb dX5_get_81 (by decide) ?_
            exact zr_L hx hb hr hlocks hP hS h dX5_get_95
        · have h := h.2 hc
          refine lv_aload_n hx hb dX5_get_61 rfl (lv_at hl 0 rfl) ?_
          refine fg_3_3 hZ hx hb hts in3 hown hE hP (kSi hin18) lk90 dX5_get_62 ?_
          refine lv_iload_n hx hb dX5_get_65 rfl (lv_at hl 3 rfl) ?_
          obtain ⟨hin, h⟩ := h
          refine al_14 hZ hx hb hE hP (kr_3_3 (kSi hin18)) hin dX5_get_66 ?_
          exact zr_L hx hb hr hlocks hP hS h dX5_get_67
      · have h := h.2 hc
        refine lv_aload_n hx hb dX5_get_45 rfl (lv_at hl 1 rfl) ?_
        refine lv_iconst (v := 2) hx hb dX5_get_46 (by decide) ?_
        refine zc_VI (As := [.int 2]) (rest := []) ⟨hx, hb, hml, hown, hts⟩ (cwV 1 hts gX5_get_X5_find rfl rfl rfl hd_X5_find ⟨Nat.le_of_ble_eq_true rfl, Nat.le_of_ble_eq_true rfl⟩) (mt_X5_find l hZ σ39 _ 2 _ h) (rc_5 hZ hE hP kd0) hE hP hS rfl hl.1 rfl (Nat.le_of_ble_eq_true rfl) dX5_get_47 ⟨Nat.zero_le _, Nat.zero_le _⟩ (fun r47 σ47 H locs h hP hS => ?_)
        refine zc_SL (As := [.int r47]) (rest := []) ⟨hx, hb, hml, hown, hts⟩ (va_cwS 1 hts gX5_get_X5_asLong rfl rfl rfl hd_X5_asLong ⟨Nat.le_of_ble_eq_true rfl, Nat.le_of_ble_eq_true rfl⟩) (mt_X5_asLong l hZ σ47 _ r47 _ h) hE hP hS rfl hl.1 rfl (Nat.le_of_ble_eq_true rfl) dX5_get_50 ⟨Nat.zero_le _, Nat.zero_le _⟩ (fun r50 σ50 H locs h hP hS => ?_)
        exact zr_L hx hb hr hlocks hP hS h dX5_get_53
    · have h := h.2 hc
      refine lv_aload_n hx hb dX5_get_27 rfl (lv_at hl 1 rfl) ?_
      refine lv_iconst (v := 1) hx hb dX5_get_28 (by decide) ?_
      refine zc_VI (As := [.int 1]) (rest := []) ⟨hx, hb, hml, hown, hts⟩ (cwV 1 hts gX5_get_X5_find rfl rfl rfl hd_X5_find ⟨Nat.le_of_ble_eq_true rfl, Nat.le_of_ble_eq_true rfl⟩) (mt_X5_find l hZ σ1 _ 1 _ h) (rc_5 hZ hE hP kd0) hE hP hS rfl hl.1 rfl (Nat.le_of_ble_eq_true rfl) dX5_get_29 ⟨Nat.zero_le _, Nat.zero_le _⟩ (fun r29 σ29 H locs h hP hS => ?_)
      refine zc_SL (As := [.int r29]) (rest := []) ⟨hx, hb, hml, hown, hts⟩ (va_cwS 1 hts gX5_get_X5_asLong rfl rfl rfl hd_X5_asLong ⟨Nat.le_of_ble_eq_true rfl, Nat.le_of_ble_eq_true rfl⟩) (mt_X5_asLong l hZ σ29 _ r29 _ h) hE hP hS rfl hl.1 rfl (Nat.le_of_ble_eq_true rfl) dX5_get_32 ⟨Nat.zero_le _, Nat.zero_le _⟩ (fun r32 σ32 H locs h hP hS => ?_)
      exact zr_L hx hb hr hlocks hP hS h dX5_get_35
  · have h := h.2 hc
    refine lv_bipush (v := (-2)) hx hb dX5_get_7 (by decide) ?_
    refine zc_SL (As := [.int (-2)]) (rest := []) ⟨hx, hb, hml, hown, hts⟩ (va_cwS 1 hts gX5_get_X5_asLong rfl rfl rfl hd_X5_asLong ⟨Nat.le_of_ble_eq_true rfl, Nat.le_of_ble_eq_true rfl⟩) (mt_X5_asLong l hZ σ1 _ (-2) _ h) hE hP hS rfl hl.1 rfl (Nat.le_of_ble_eq_true rfl) dX5_get_9 ⟨Nat.zero_le _, Nat.zero_le _⟩ (fun r9 σ9 H locs h hP hS => ?_)
    exact zr_L hx hb hr hlocks hP hS h dX5_get_12
theorem hd_X5_copy : yX5_copy.cls = RX5 ∧ yX5_copy.cls ≠ "java/lang/invoke/MethodHandle" ∧ yX5_copy.cls ≠ "java/lang/invoke/VarHandle" ∧ (parseMethodDescriptor yX5_copy.desc).map (fun d => d.parameters.length) = some 5 := by decide +kernel
set_option maxHeartbeats 4000000 in
set_option maxRecDepth 100000 in
theorem mt_X5_copy (l : Launch) {Z : ZW} (hZ : isC Z) (σ : SS) (sz : Nat) (x1 : Int32) (x2 : Int32) (x3 : Int32) (x4 : Int32) (x5 : Int32) (K : SS → Int32 → Prop) (h : wp_X5_copy σ x1 x2 x3 x4 x5 K) : mtZ l yX5_copy wsX5_copy (rm9 2 43) Z [.ref (zq Z 0), .int x1, .int x2, .int x3, .int x4, .int x5] σ sz (qcI Z K sz) := by
  refine Met.ofW (cc := cX5_copy) (maxL := 8) (ret := (some .int)) (by decide) rfl ?_
  intro p e s m args below meth c s₁ B hml hv
  obtain ⟨hargs, hsz, hP, hE1, hE2, hE3⟩ := hv
  subst hsz
  have hE : envZ Z s := ⟨hE1, hE2, hE3⟩
  have hx := B.exec
  have hb := B.bytes
  have hr := B.returns
  have hlocks := B.notSynchronized
  have hts := atoms_spec (ws := wsX5_copy) B.pre
  have hown : s.vm.findClass RX5 = some m.cls := findClass_of_methodNamed B.named
  have hS : SZ Z s s.heap [] := va_S.rf
  obtain ⟨ls, hef, hl⟩ := z_entry m hargs (n := 8) (Nat.le_of_ble_eq_true rfl)
  rw [hef]
  have hl : lv_has ls 8 [(0, .ref (zq Z 0)), (1, .int x1), (2, .int x2), (3, .int x3), (4, .int x4), (5, .int x5)] := hl
  have in3 : ∀ w ∈ u_ws RX3 TX3 6, w ∈ wsX5_copy := by decide +kernel
  have in5 : ∀ w ∈ u_ws RX5 TX5 15, w ∈ wsX5_copy := by decide +kernel
  have lk228 := hts (.fieldLink RX5 228 "BeatDoubts$Sheet" "isLost" "Z") (by decide +kernel)
  have lk241 := hts (.fieldLink RX5 241 "BeatDoubts$Sheet" "form" "I") (by decide +kernel)
  have lk32 := hts (.fieldLink RX5 32 "BeatDoubts" "sheets" "[LBeatDoubts$Sheet;") (by decide +kernel)
  unfold wp_X5_copy at h
  refine lv_iload_n hx hb dX5_copy_0 rfl (lv_at hl 1 rfl) ?_
  refine zc_SI (As := [.int x1]) (rest := []) ⟨hx, hb, hml, hown, hts⟩ (va_cwS 1 hts gX5_copy_X5_isSheet rfl rfl rfl hd_X5_isSheet ⟨Nat.le_of_ble_eq_true rfl, Nat.le_of_ble_eq_true rfl⟩) (mt_X5_isSheet l hZ σ _ x1 _ h) hE hP hS rfl hl.1 rfl (Nat.le_of_ble_eq_true rfl) dX5_copy_1 ⟨Nat.zero_le _, Nat.zero_le _⟩ (fun r1 σ1 H locs h hP hS => ?_)
  refine lv_if_eq (tgt := 14) hx hb dX5_copy_4 (by decide) (fun hc => ?_) (fun hc => ?_)
  · have h := h.1 hc
    refine lv_bipush (v := (-2)) hx hb dX5_copy_14 (by decide) ?_
    exact zr_I hx hb hr hlocks hP hS h dX5_copy_16
  · have h := h.2 hc
    refine lv_iload_n hx hb dX5_copy_7 rfl (lv_at hl 3 rfl) ?_
    refine zc_SI (As := [.int x3]) (rest := []) ⟨hx, hb, hml, hown, hts⟩ (va_cwS 1 hts gX5_copy_X5_isSheet rfl rfl rfl hd_X5_isSheet ⟨Nat.le_of_ble_eq_true rfl, Nat.le_of_ble_eq_true rfl⟩) (mt_X5_isSheet l hZ σ1 _ x3 _ h) hE hP hS rfl hl.1 rfl (Nat.le_of_ble_eq_true rfl) dX5_copy_8 ⟨Nat.zero_le _, Nat.zero_le _⟩ (fun r8 σ8 H locs h hP hS => ?_)
    refine lv_if_ne (tgt := 17) hx hb dX5_copy_11 (by decide) (fun hc => ?_) (fun hc => ?_)
    · have h := h.1 hc
      refine lv_aload_n hx hb dX5_copy_17 rfl (lv_at hl 0 rfl) ?_
      refine fg_5_7 hZ hx hb hts in5 hown hE hP kd0 lk32 dX5_copy_18 ?_
      refine lv_iload_n hx hb dX5_copy_21 rfl (lv_at hl 1 rfl) ?_
      obtain ⟨hin22, h⟩ := h
      refine al_17 hZ hx hb hE hP kr_5_7 hin22 dX5_copy_22 ?_
      refine lv_astore (lv' := [(6, .ref (zq Z (56 + 4 * x1.toNatClampNeg))), (0, .ref (zq Z 0)), (1, .int x1), (2, .int x2), (3, .int x3), (4, .int x4), (5, .int x5)]) hx hb dX5_copy_23 hl (by decide) rfl (fun ls hl => ?_)
      refine lv_aload_n hx hb dX5_copy_25 rfl (lv_at hl 1 rfl) ?_
      refine fg_5_7 hZ hx hb hts in5 hown hE hP kd0 lk32 dX5_copy_26 ?_
      refine lv_iload_n hx hb dX5_copy_29 rfl (lv_at hl 4 rfl) ?_
      obtain ⟨hin30, h⟩ := h
      refine al_17 hZ hx hb hE hP kr_5_7 hin30 dX5_copy_30 ?_
      refine lv_astore (lv' := [(7, .ref (zq Z (56 + 4 * x3.toNatClampNeg))), (6, .ref (zq Z (56 + 4 * x1.toNatClampNeg))), (0, .ref (zq Z 0)), (1, .int x1), (2, .int x2), (3, .int x3), (4, .int x4), (5, .int x5)]) hx hb dX5_copy_31 hl (by decide) rfl (fun ls hl => ?_)
      refine lv_aload hx hb dX5_copy_33 (lv_at hl 1 rfl) ?_
      refine fg_3_0 hZ hx hb hts in3 hown hE hP (kSi hin22) lk228 dX5_copy_35 ?_
      refine lv_if_ne (tgt := 49) hx hb dX5_copy_38 (by decide) (fun hc => ?_) (fun hc => ?_)
      · have h := h.1 hc
        refine lv_aload_n hx hb dX5_copy_49 rfl (lv_at hl 2 rfl) ?_
        refine lv_iconst (v := 1) hx hb dX5_copy_50 (by decide) ?_
        refine zc_VI (As := [.int 1]) (rest := []) ⟨hx, hb, hml, hown, hts⟩ (cwV 1 hts gX5_copy_X5_find rfl rfl rfl hd_X5_find ⟨Nat.le_of_ble_eq_true rfl, Nat.le_of_ble_eq_true rfl⟩) (mt_X5_find l hZ σ8 _ 1 _ h) (rc_5 hZ hE hP kd0) hE hP hS rfl hl.1 rfl (Nat.le_of_ble_eq_true rfl) dX5_copy_51 ⟨Nat.zero_le _, Nat.zero_le _⟩ (fun r51 σ51 H locs h hP hS => ?_)
        exact zr_I hx hb hr hlocks hP hS h dX5_copy_54
      · have h := h.2 hc
        refine lv_aload hx hb dX5_copy_41 (lv_at hl 0 rfl) ?_
        refine fg_3_0 hZ hx hb hts in3 hown hE hP (kSi hin30) lk228 dX5_copy_43 ?_
        refine lv_if_eq (tgt := 55) hx hb dX5_copy_46 (by decide) (fun hc => ?_) (fun hc => ?_)
        · have h := h.1 hc
          refine lv_aload hx hb dX5_copy_55 (lv_at hl 1 rfl) ?_
          refine fg_3_1 hZ hx hb hts in3 hown hE hP (kSi hin22) lk241 dX5_copy_57 ?_
          refine lv_aload hx hb dX5_copy_60 (lv_at hl 0 rfl) ?_
          refine fg_3_1 hZ hx hb hts in3 hown hE hP (kSi hin30) lk241 dX5_copy_62 ?_
          refine lv_icmp_eq (tgt := 74) hx hb dX5_copy_65 (by decide) (fun hc => ?_) (fun hc => ?_)
          · have h := h.1 hc
            refine lv_aload hx hb dX5_copy_74 (lv_at hl 1 rfl) ?_
            refine lv_iload_n hx hb dX5_copy_76 rfl (lv_at hl 4 rfl) ?_
            refine lv_iload hx hb dX5_copy_77 (lv_at hl 7 rfl) ?_
            refine zc_VI (As := [.int x2, .int x5]) (rest := []) ⟨hx, hb, hml, hown, hts⟩ (cwV 2 hts gX5_copy_X3_hasItems rfl rfl rfl hd_X3_hasItems ⟨Nat.le_of_ble_eq_true rfl, Nat.le_of_ble_eq_true rfl⟩) (mt_X3_hasItems l hZ σ8 _ (kSi hin22) x2 x5 _ h) (rc_3 hZ hE hP (kSi hin22)) hE hP hS rfl hl.1 rfl (Nat.le_of_ble_eq_true rfl) dX5_copy_79 ⟨Nat.zero_le _, Nat.zero_le _⟩ (fun r79 σ79 H locs h hP hS => ?_)
            refine lv_if_eq (tgt := 97) hx hb dX5_copy_82 (by decide) (fun hc => ?_) (fun hc => ?_)
            · have h := h.1 hc
              refine lv_aload_n hx hb dX5_copy_97 rfl (lv_at hl 2 rfl) ?_
              refine lv_iconst (v := 2) hx hb dX5_copy_98 (by decide) ?_
              refine zc_VI (As := [.int 2]) (rest := []) ⟨hx, hb, hml, hown, hts⟩ (cwV 1 hts gX5_copy_X5_find rfl rfl rfl hd_X5_find ⟨Nat.le_of_ble_eq_true rfl, Nat.le_of_ble_eq_true rfl⟩) (mt_X5_find l hZ σ79 _ 2 _ h) (rc_5 hZ hE hP kd0) hE hP hS rfl hl.1 rfl (Nat.le_of_ble_eq_true rfl) dX5_copy_99 ⟨Nat.zero_le _, Nat.zero_le _⟩ (fun r99 σ99 H locs h hP hS => ?_)
              exact zr_I hx hb hr hlocks hP hS h dX5_copy_102
            · have h := h.2 hc
              refine lv_aload hx hb dX5_copy_85 (lv_at hl 0 rfl) ?_
              refine lv_iload hx hb dX5_copy_87 (lv_at hl 6 rfl) ?_
              refine lv_iload hx hb dX5_copy_89 (lv_at hl 7 rfl) ?_
              refine zc_VI (As := [.int x4, .int x5]) (rest := []) ⟨hx, hb, hml, hown, hts⟩ (cwV 2 hts gX5_copy_X3_hasItems rfl rfl rfl hd_X3_hasItems ⟨Nat.le_of_ble_eq_true rfl, Nat.le_of_ble_eq_true rfl⟩) (mt_X3_hasItems l hZ σ79 _ (kSi hin30) x4 x5 _ h) (rc_3 hZ hE hP (kSi hin30)) hE hP hS rfl hl.1 rfl (Nat.le_of_ble_eq_true rfl) dX5_copy_91 ⟨Nat.zero_le _, Nat.zero_le _⟩ (fun r91 σ91 H locs h hP hS => ?_)
              refine lv_if_ne (tgt := 103) hx hb dX5_copy_94 (by decide) (fun hc => ?_) (fun hc => ?_)
              · have h := h.1 hc
                refine lv_aload hx hb dX5_copy_103 (lv_at hl 0 rfl) ?_
                refine lv_aload hx hb dX5_copy_105 (lv_at hl 1 rfl) ?_
                refine lv_iload_n hx hb dX5_copy_107 rfl (lv_at hl 4 rfl) ?_
                refine lv_iload hx hb dX5_copy_108 (lv_at hl 6 rfl) ?_
                refine lv_iload hx hb dX5_copy_110 (lv_at hl 7 rfl) ?_
                refine zc_VV (As := [.ref (zq Z (56 + 4 * x1.toNatClampNeg)), .int x2, .int x4, .int x5]) (rest := []) ⟨hx, hb, hml, hown, hts⟩ (cwV 4 hts gX5_copy_X3_takeItems rfl rfl rfl hd_X3_takeItems ⟨Nat.le_of_ble_eq_true rfl, Nat.le_of_ble_eq_true rfl⟩) (mt_X3_takeItems l hZ σ91 _ (kSi hin30) (kSi hin22) x2 x4 x5 _ h) (rc_3 hZ hE hP (kSi hin30)) hE hP hS rfl hl.1 rfl (Nat.le_of_ble_eq_true rfl) dX5_copy_112 ⟨Nat.zero_le _, Nat.zero_le _⟩ (fun σ112 H locs h hP hS => ?_)
                refine lv_iconst (v := 1) hx hb dX5_copy_115 (by decide) ?_
                exact zr_I hx hb hr hlocks hP hS h dX5_copy_116
              · have h := h.2 hc
                refine lv_aload_n hx hb dX5_copy_97 rfl (lv_at hl 2 rfl) ?_
                refine lv_iconst (v := 2) hx hb dX5_copy_98 (by decide) ?_
                refine zc_VI (As := [.int 2]) (rest := []) ⟨hx, hb, hml, hown, hts⟩ (cwV 1 hts gX5_copy_X5_find rfl rfl rfl hd_X5_find ⟨Nat.le_of_ble_eq_true rfl, Nat.le_of_ble_eq_true rfl⟩) (mt_X5_find l hZ σ91 _ 2 _ h) (rc_5 hZ hE hP kd0) hE hP hS rfl hl.1 rfl (Nat.le_of_ble_eq_true rfl) dX5_copy_99 ⟨Nat.zero_le _, Nat.zero_le _⟩ (fun r99 σ99 H locs h hP hS => ?_)
                exact zr_I hx hb hr hlocks hP hS h dX5_copy_102
          · have h := h.2 hc
            refine lv_aload_n hx hb dX5_copy_68 rfl (lv_at hl 2 rfl) ?_
            refine lv_iconst (v := 4) hx hb dX5_copy_69 (by decide) ?_
            refine zc_VI (As := [.int 4]) (rest := []) ⟨hx, hb, hml, hown, hts⟩ (cwV 1 hts gX5_copy_X5_find rfl rfl rfl hd_X5_find ⟨Nat.le_of_ble_eq_true rfl, Nat.le_of_ble_eq_true rfl⟩) (mt_X5_find l hZ σ8 _ 4 _ h) (rc_5 hZ hE hP kd0) hE hP hS rfl hl.1 rfl (Nat.le_of_ble_eq_true rfl) dX5_copy_70 ⟨Nat.zero_le _, Nat.zero_le _⟩ (fun r70 σ70 H locs h hP hS => ?_)
            exact zr_I hx hb hr hlocks hP hS h dX5_copy_73
        · have h := h.2 hc
          refine lv_aload_n hx hb dX5_copy_49 rfl (lv_at hl 2 rfl) ?_
          refine lv_iconst (v := 1) hx hb dX5_copy_50 (by decide) ?_
          refine zc_VI (As := [.int 1]) (rest := []) ⟨hx, hb, hml, hown, hts⟩ (cwV 1 hts gX5_copy_X5_find rfl rfl rfl hd_X5_find ⟨Nat.le_of_ble_eq_true rfl, Nat.le_of_ble_eq_true rfl⟩) (mt_X5_find l hZ σ8 _ 1 _ h) (rc_5 hZ hE hP kd0) hE hP hS rfl hl.1 rfl (Nat.le_of_ble_eq_true rfl) dX5_copy_51 ⟨Nat.zero_le _, Nat.zero_le _⟩ (fun r51 σ51 H locs h hP hS => ?_)
          exact zr_I hx hb hr hlocks hP hS h dX5_copy_54
    · have h := h.2 hc
      refine lv_bipush (v := (-2)) hx hb dX5_copy_14 (by decide) ?_
      exact zr_I hx hb hr hlocks hP hS h dX5_copy_16
theorem hd_X5_write : yX5_write.cls = RX5 ∧ yX5_write.cls ≠ "java/lang/invoke/MethodHandle" ∧ yX5_write.cls ≠ "java/lang/invoke/VarHandle" ∧ (parseMethodDescriptor yX5_write.desc).map (fun d => d.parameters.length) = some 1 := by decide +kernel
set_option maxHeartbeats 4000000 in
set_option maxRecDepth 100000 in
theorem mt_X5_write (l : Launch) {Z : ZW} (hZ : isC Z) (σ : SS) (sz : Nat) (x1 : Int32) (K : SS → Int32 → Prop) (h : wp_X5_write σ x1 K) : mtZ l yX5_write wsX5_write (rm9 4 98) Z [.ref (zq Z 0), .int x1] σ sz (qcI Z K sz) := by
  refine Met.ofW (cc := cX5_write) (maxL := 7) (ret := (some .int)) (by decide) rfl ?_
  intro p e s m args below meth c s₁ B hml hv
  obtain ⟨hargs, hsz, hP, hE1, hE2, hE3⟩ := hv
  subst hsz
  have hE : envZ Z s := ⟨hE1, hE2, hE3⟩
  have hx := B.exec
  have hb := B.bytes
  have hr := B.returns
  have hlocks := B.notSynchronized
  have hts := atoms_spec (ws := wsX5_write) B.pre
  have hown : s.vm.findClass RX5 = some m.cls := findClass_of_methodNamed B.named
  have hS : SZ Z s s.heap [] := va_S.rf
  obtain ⟨ls, hef, hl⟩ := z_entry m hargs (n := 7) (Nat.le_of_ble_eq_true rfl)
  rw [hef]
  have hl : lv_has ls 7 [(0, .ref (zq Z 0)), (1, .int x1)] := hl
  have in0 : ∀ w ∈ u_ws RX0 TX0 10, w ∈ wsX5_write := by decide +kernel
  have in3 : ∀ w ∈ u_ws RX3 TX3 6, w ∈ wsX5_write := by decide +kernel
  have in5 : ∀ w ∈ u_ws RX5 TX5 15, w ∈ wsX5_write := by decide +kernel
  have cdmin := hts (.code Lib.Math.min.name Lib.Math.min.code 2 (some .int)) (by decide +kernel)
  have inM := hts (.initialized "java/lang/Math") (by decide +kernel)
  have lk100 := hts (.fieldLink RX5 100 "BeatDoubts$Arrivals" "newsOfBeat" "[I") (by decide +kernel)
  have lk244 := hts (.fieldLink RX5 244 "BeatDoubts$Sheet" "isNoNumber" "[Z") (by decide +kernel)
  have lk32 := hts (.fieldLink RX5 32 "BeatDoubts" "sheets" "[LBeatDoubts$Sheet;") (by decide +kernel)
  have lk40 := hts (.fieldLink RX5 40 "BeatDoubts" "arrivals" "LBeatDoubts$Arrivals;") (by decide +kernel)
  have lk61 := hts (.fieldLink RX5 61 "BeatDoubts" "beatCount" "I") (by decide +kernel)
  have lk72 := hts (.methodLink RX5 72 Lib.Math.min.name) (by decide +kernel)
  have lk87 := hts (.fieldLink RX5 87 "BeatDoubts$Sheet" "size" "I") (by decide +kernel)
  have stmin := hts (.static Lib.Math.min.name) (by decide +kernel)
  have B30 : ∀ (n : Nat) (σ : SS) (y3 : Nat) (x4 : Int32) (x5 : Int32) (H : Heap) (locs : List Loc) (ls : Array Slot), fx4 (lb_X5_write_30 K) n σ y3 x4 x5 → PZ Z σ H → SZ Z s H locs → kd y3 = 3 → lv_has ls 7 [(0, .ref (zq Z 0)), (3, .ref (zq Z y3)), (4, .int x4), (5, .int x5)] → W p l e (headSpec wsX5_write (rm9 4 98)).room s m args below meth c H locs 0 0 (MQ below (qcI Z K s.heap.size) args s 0 0 (aZ Z s.heap.size)) (F0 m 30 ls []) := by
    intro n30
    induction n30 with
    | zero => intro σ y3 x4 x5 H locs ls h; exact h.elim
    | succ n30 ih30 =>
      intro σ y3 x4 x5 H locs ls h hP hS hy3 hl
      have h : lb_X5_write_30 K (fx4 (lb_X5_write_30 K) n30) σ y3 x4 x5 := h
      unfold lb_X5_write_30 at h
      refine lv_iload hx hb dX5_write_30 (lv_at hl 3 rfl) ?_
      refine lv_aload_n hx hb dX5_write_32 rfl (lv_at hl 1 rfl) ?_
      refine fg_3_2 hZ hx hb hts in3 hown hE hP hy3 lk87 dX5_write_33 ?_
      refine lv_aload_n hx hb dX5_write_36 rfl (lv_at hl 0 rfl) ?_
      refine fg_5_1 hZ hx hb hts in5 hown hE hP kd0 lk61 dX5_write_37 ?_
      refine va_mmin hx hb (hml.trans hl.1.symm) hown lk72 stmin inM cdmin (Nat.le_of_ble_eq_true rfl) (Nat.le_of_ble_eq_true rfl) (Nat.zero_le _) (Nat.zero_le _) dX5_write_40 ?_
      refine lv_icmp_ge (tgt := 99) hx hb dX5_write_43 (by decide) (fun hc => ?_) (fun hc => ?_)
      · have h := h.1 hc
        refine lv_iload hx hb dX5_write_99 (lv_at hl 2 rfl) ?_
        exact zr_I hx hb hr hlocks hP hS h dX5_write_101
      · have h := h.2 hc
        refine lv_aload_n hx hb dX5_write_46 rfl (lv_at hl 0 rfl) ?_
        refine fg_5_9 hZ hx hb hts in5 hown hE hP kd0 lk40 dX5_write_47 ?_
        refine fg_0_1 hZ hx hb hts in0 hown hE hP kr_5_9 lk100 dX5_write_50 ?_
        refine lv_iload hx hb dX5_write_53 (lv_at hl 3 rfl) ?_
        obtain ⟨hin, h⟩ := h
        refine al_10 hZ hx hb hE hP (kr_0_1 kr_5_9) hin dX5_write_55 ?_
        refine lv_istore (lv' := [(6, .int (gA σ (5 + 2) x5.toNatClampNeg)), (0, .ref (zq Z 0)), (3, .ref (zq Z y3)), (4, .int x4), (5, .int x5)]) hx hb dX5_write_56 hl (by decide) rfl (fun ls hl => ?_)
        refine lv_iload hx hb dX5_write_58 (lv_at hl 0 rfl) ?_
        refine lv_iconst (v := 1) hx hb dX5_write_60 (by decide) ?_
        refine lv_icmp_lt (tgt := 85) hx hb dX5_write_61 (by decide) (fun hc => ?_) (fun hc => ?_)
        · have h := h.1 hc
          refine lv_aload_n hx hb dX5_write_85 rfl (lv_at hl 2 rfl) ?_
          refine fg_3_5 hZ hx hb hts in3 hown hE hP hy3 lk244 dX5_write_86 ?_
          refine lv_iload hx hb dX5_write_89 (lv_at hl 4 rfl) ?_
          refine lv_iconst (v := 1) hx hb dX5_write_91 (by decide) ?_
          obtain ⟨hin, h⟩ := h
          refine as_13 hZ hx hb hE hP hS (kr_3_5 hy3) hin dX5_write_92 (fun H locs hP hS => ?_)
          refine lv_iinc (v := (x5 + 1)) (lv' := [(5, .int (x5 + 1)), (6, .int (gA σ (5 + 2) x5.toNatClampNeg)), (0, .ref (zq Z 0)), (3, .ref (zq Z y3)), (4, .int x4)]) hx hb dX5_write_93 hl (k := 4) rfl rfl (by decide) rfl (fun ls hl => ?_)
          refine lv_goto (tgt := 30) hx hb dX5_write_96 (by decide) ?_
          exact ih30 (sA σ (y3 + 3) x5.toNatClampNeg (vp_nar .boolean 1)) y3 x4 (x5 + 1) _ _ _ h hP hS hy3 (lv_sub hl [2, 3, 4, 0] rfl)
        · have h := h.2 hc
          refine lv_aload_n hx hb dX5_write_64 rfl (lv_at hl 2 rfl) ?_
          refine lv_iload hx hb dX5_write_65 (lv_at hl 4 rfl) ?_
          refine lv_aload_n hx hb dX5_write_67 rfl (lv_at hl 1 rfl) ?_
          refine fg_5_9 hZ hx hb hts in5 hown hE hP kd0 lk40 dX5_write_68 ?_
          refine lv_iload hx hb dX5_write_71 (lv_at hl 0 rfl) ?_
          refine zc_VD (As := [.int (gA σ (5 + 2) x5.toNatClampNeg)]) (rest := [.int x5, .ref (zq Z y3)]) ⟨hx, hb, hml, hown, hts⟩ (cwV 1 hts gX5_write_X0_offOf rfl rfl rfl hd_X0_offOf ⟨Nat.le_of_ble_eq_true rfl, Nat.le_of_ble_eq_true rfl⟩) (mt_X0_offOf l hZ σ _ kr_5_9 (gA σ (5 + 2) x5.toNatClampNeg) _ h) (rc_0 hZ hE hP kr_5_9) hE hP hS rfl hl.1 rfl (Nat.le_of_ble_eq_true rfl) dX5_write_73 ⟨Nat.zero_le _, Nat.zero_le _⟩ (fun r73 σ73 H locs h hP hS => ?_)
          refine zc_VV (As := [.int x5, .double r73]) (rest := []) ⟨hx, hb, hml, hown, hts⟩ (cwV 2 hts gX5_write_X3_putNumber rfl rfl rfl hd_X3_putNumber ⟨Nat.le_of_ble_eq_true rfl, Nat.le_of_ble_eq_true rfl⟩) (mt_X3_putNumber l hZ σ73 _ hy3 x5 r73 _ h) (rc_3 hZ hE hP hy3) hE hP hS rfl hl.1 rfl (Nat.le_of_ble_eq_true rfl) dX5_write_76 ⟨Nat.zero_le _, Nat.zero_le _⟩ (fun σ76 H locs h hP hS => ?_)
          refine lv_iinc (v := (x4 + 1)) (lv' := [(4, .int (x4 + 1)), (6, .int (gA σ (5 + 2) x5.toNatClampNeg)), (0, .ref (zq Z 0)), (3, .ref (zq Z y3)), (5, .int x5)]) hx hb dX5_write_79 hl (k := 3) rfl rfl (by decide) rfl (fun ls hl => ?_)
          refine lv_goto (tgt := 93) hx hb dX5_write_82 (by decide) ?_
          refine lv_iinc (v := (x5 + 1)) (lv' := [(5, .int (x5 + 1)), (4, .int (x4 + 1)), (6, .int (gA σ (5 + 2) x5.toNatClampNeg)), (0, .ref (zq Z 0)), (3, .ref (zq Z y3))]) hx hb dX5_write_93 hl (k := 4) rfl rfl (by decide) rfl (fun ls hl => ?_)
          refine lv_goto (tgt := 30) hx hb dX5_write_96 (by decide) ?_
          exact ih30 σ76 y3 (x4 + 1) (x5 + 1) _ _ _ h hP hS hy3 (lv_sub hl [3, 4, 1, 0] rfl)
  unfold wp_X5_write at h
  refine lv_aload_n hx hb dX5_write_0 rfl (lv_at hl 0 rfl) ?_
  refine lv_iload_n hx hb dX5_write_1 rfl (lv_at hl 1 rfl) ?_
  refine lv_iconst (v := 1) hx hb dX5_write_2 (by decide) ?_
  refine zc_VI (As := [.int x1, .int 1]) (rest := []) ⟨hx, hb, hml, hown, hts⟩ (cwV 2 hts gX5_write_X5_refusalOfRow rfl rfl rfl hd_X5_refusalOfRow ⟨Nat.le_of_ble_eq_true rfl, Nat.le_of_ble_eq_true rfl⟩) (mt_X5_refusalOfRow l hZ σ _ x1 1 _ h) (rc_5 hZ hE hP kd0) hE hP hS rfl hl.1 rfl (Nat.le_of_ble_eq_true rfl) dX5_write_3 ⟨Nat.zero_le _, Nat.zero_le _⟩ (fun r3 σ3 H locs h hP hS => ?_)
  refine lv_istore_n (lv' := [(2, .int r3), (0, .ref (zq Z 0)), (1, .int x1)]) hx hb dX5_write_6 rfl hl (by decide) rfl (fun ls hl => ?_)
  refine lv_iload_n hx hb dX5_write_7 rfl (lv_at hl 0 rfl) ?_
  refine lv_if_eq (tgt := 13) hx hb dX5_write_8 (by decide) (fun hc => ?_) (fun hc => ?_)
  · have h := h.1 hc
    refine lv_aload_n hx hb dX5_write_13 rfl (lv_at hl 1 rfl) ?_
    refine zc_VV (As := []) (rest := []) ⟨hx, hb, hml, hown, hts⟩ (cwV 0 hts gX5_write_X5_followArrivals rfl rfl rfl hd_X5_followArrivals ⟨Nat.le_of_ble_eq_true rfl, Nat.le_of_ble_eq_true rfl⟩) (mt_X5_followArrivals l hZ σ3 _  _ h) (rc_5 hZ hE hP kd0) hE hP hS rfl hl.1 rfl (Nat.le_of_ble_eq_true rfl) dX5_write_14 ⟨Nat.zero_le _, Nat.zero_le _⟩ (fun σ14 H locs h hP hS => ?_)
    refine lv_aload_n hx hb dX5_write_17 rfl (lv_at hl 1 rfl) ?_
    refine fg_5_7 hZ hx hb hts in5 hown hE hP kd0 lk32 dX5_write_18 ?_
    refine lv_iload_n hx hb dX5_write_21 rfl (lv_at hl 2 rfl) ?_
    obtain ⟨hin22, h⟩ := h
    refine al_17 hZ hx hb hE hP kr_5_7 hin22 dX5_write_22 ?_
    refine lv_astore_n (lv' := [(3, .ref (zq Z (56 + 4 * x1.toNatClampNeg))), (2, .int r3), (0, .ref (zq Z 0)), (1, .int x1)]) hx hb dX5_write_23 rfl hl (by decide) rfl (fun ls hl => ?_)
    refine lv_iconst (v := 0) hx hb dX5_write_24 (by decide) ?_
    refine lv_istore (lv' := [(4, .int 0), (3, .ref (zq Z (56 + 4 * x1.toNatClampNeg))), (2, .int r3), (0, .ref (zq Z 0)), (1, .int x1)]) hx hb dX5_write_25 hl (by decide) rfl (fun ls hl => ?_)
    refine lv_iconst (v := 0) hx hb dX5_write_27 (by decide) ?_
    refine lv_istore (lv' := [(5, .int 0), (4, .int 0), (3, .ref (zq Z (56 + 4 * x1.toNatClampNeg))), (2, .int r3), (0, .ref (zq Z 0)), (1, .int x1)]) hx hb dX5_write_28 hl (by decide) rfl (fun ls hl => ?_)
    obtain ⟨n, h⟩ := h
    exact B30 n σ14 (56 + 4 * x1.toNatClampNeg) 0 0 _ _ _ h hP hS (kSi hin22) (lv_sub hl [4, 2, 1, 0] rfl)
  · have h := h.2 hc
    refine lv_iload_n hx hb dX5_write_11 rfl (lv_at hl 0 rfl) ?_
    exact zr_I hx hb hr hlocks hP hS h dX5_write_12
theorem hd_X5_found : yX5_found.cls = RX5 ∧ yX5_found.cls ≠ "java/lang/invoke/MethodHandle" ∧ yX5_found.cls ≠ "java/lang/invoke/VarHandle" ∧ (parseMethodDescriptor yX5_found.desc).map (fun d => d.parameters.length) = some 3 := by decide +kernel
set_option maxHeartbeats 4000000 in
set_option maxRecDepth 100000 in
theorem mt_X5_found (l : Launch) {Z : ZW} (hZ : isC Z) (σ : SS) (sz : Nat) (x1 : Int32) (x2 : Int32) (x3 : Int32) (K : SS → Int32 → Prop) (h : wp_X5_found σ x1 x2 x3 K) : mtZ l yX5_found wsX5_found (rm9 3 65) Z [.ref (zq Z 0), .int x1, .int x2, .int x3] σ sz (qcI Z K sz) := by
  refine Met.ofW (cc := cX5_found) (maxL := 5) (ret := (some .int)) (by decide) rfl ?_
  intro p e s m args below meth c s₁ B hml hv
  obtain ⟨hargs, hsz, hP, hE1, hE2, hE3⟩ := hv
  subst hsz
  have hE : envZ Z s := ⟨hE1, hE2, hE3⟩
  have hx := B.exec
  have hb := B.bytes
  have hr := B.returns
  have hlocks := B.notSynchronized
  have hts := atoms_spec (ws := wsX5_found) B.pre
  have hown : s.vm.findClass RX5 = some m.cls := findClass_of_methodNamed B.named
  have hS : SZ Z s s.heap [] := va_S.rf
  obtain ⟨ls, hef, hl⟩ := z_entry m hargs (n := 5) (Nat.le_of_ble_eq_true rfl)
  rw [hef]
  have hl : lv_has ls 5 [(0, .ref (zq Z 0)), (1, .int x1), (2, .int x2), (3, .int x3)] := hl
  have in5 : ∀ w ∈ u_ws RX5 TX5 15, w ∈ wsX5_found := by decide +kernel
  have lk235 := hts (.constantDouble RX5 235 (4620693217682128896)) (by decide +kernel)
  have lk32 := hts (.fieldLink RX5 32 "BeatDoubts" "sheets" "[LBeatDoubts$Sheet;") (by decide +kernel)
  unfold wp_X5_found at h
  refine lv_iload_n hx hb dX5_found_0 rfl (lv_at hl 2 rfl) ?_
  refine lv_i2l hx hb dX5_found_1 rfl ?_
  refine lv_iconst (v := 0) hx hb dX5_found_2 (by decide) ?_
  refine lv_iconst (v := 2) hx hb dX5_found_3 (by decide) ?_
  refine zc_SI (As := [.long x2.toInt64, .int 0, .int 2]) (rest := []) ⟨hx, hb, hml, hown, hts⟩ (va_cwS 3 hts gX5_found_X5_isWithin rfl rfl rfl hd_X5_isWithin ⟨Nat.le_of_ble_eq_true rfl, Nat.le_of_ble_eq_true rfl⟩) (mt_X5_isWithin l hZ σ _ x2.toInt64 0 2 _ h) hE hP hS rfl hl.1 rfl (Nat.le_of_ble_eq_true rfl) dX5_found_4 ⟨Nat.zero_le _, Nat.zero_le _⟩ (fun r4 σ4 H locs h hP hS => ?_)
  refine lv_if_ne (tgt := 13) hx hb dX5_found_7 (by decide) (fun hc => ?_) (fun hc => ?_)
  · have h := h.1 hc
    refine lv_aload_n hx hb dX5_found_13 rfl (lv_at hl 0 rfl) ?_
    refine lv_iload_n hx hb dX5_found_14 rfl (lv_at hl 1 rfl) ?_
    refine lv_iconst (v := 1) hx hb dX5_found_15 (by decide) ?_
    refine zc_VI (As := [.int x1, .int 1]) (rest := []) ⟨hx, hb, hml, hown, hts⟩ (cwV 2 hts gX5_found_X5_refusalOfRow rfl rfl rfl hd_X5_refusalOfRow ⟨Nat.le_of_ble_eq_true rfl, Nat.le_of_ble_eq_true rfl⟩) (mt_X5_refusalOfRow l hZ σ4 _ x1 1 _ h) (rc_5 hZ hE hP kd0) hE hP hS rfl hl.1 rfl (Nat.le_of_ble_eq_true rfl) dX5_found_16 ⟨Nat.zero_le _, Nat.zero_le _⟩ (fun r16 σ16 H locs h hP hS => ?_)
    refine lv_istore (lv' := [(4, .int r16), (0, .ref (zq Z 0)), (1, .int x1), (2, .int x2), (3, .int x3)]) hx hb dX5_found_19 hl (by decide) rfl (fun ls hl => ?_)
    refine lv_iload hx hb dX5_found_21 (lv_at hl 0 rfl) ?_
    refine lv_if_eq (tgt := 29) hx hb dX5_found_23 (by decide) (fun hc => ?_) (fun hc => ?_)
    · have h := h.1 hc
      refine lv_iload_n hx hb dX5_found_29 rfl (lv_at hl 3 rfl) ?_
      by_cases hc0 : x2 = 0
      · have h := h.1 hc0
        refine lv_lookup (tgt := 56) hx hb dX5_found_30 (by decide) (by rw [hc0] <;> rfl) (by decide) ?_
        refine lv_aload_n hx hb dX5_found_56 rfl (lv_at hl 1 rfl) ?_
        refine fg_5_7 hZ hx hb hts in5 hown hE hP kd0 lk32 dX5_found_57 ?_
        refine lv_iload_n hx hb dX5_found_60 rfl (lv_at hl 2 rfl) ?_
        obtain ⟨hin61, h⟩ := h
        refine al_17 hZ hx hb hE hP kr_5_7 hin61 dX5_found_61 ?_
        refine zc_VI (As := []) (rest := []) ⟨hx, hb, hml, hown, hts⟩ (cwV 0 hts gX5_found_X3_countNoNumbers rfl rfl rfl hd_X3_countNoNumbers ⟨Nat.le_of_ble_eq_true rfl, Nat.le_of_ble_eq_true rfl⟩) (mt_X3_countNoNumbers l hZ σ16 _ (kSi hin61) _ h) (rc_3 hZ hE hP (kSi hin61)) hE hP hS rfl hl.1 rfl (Nat.le_of_ble_eq_true rfl) dX5_found_62 ⟨Nat.zero_le _, Nat.zero_le _⟩ (fun r62 σ62 H locs h hP hS => ?_)
        exact zr_I hx hb hr hlocks hP hS h dX5_found_65
      by_cases hc1 : x2 = 1
      · have h := h.2.1 hc1
        refine lv_lookup (tgt := 66) hx hb dX5_found_30 (by decide) (by rw [hc1] <;> rfl) (by decide) ?_
        refine lv_aload_n hx hb dX5_found_66 rfl (lv_at hl 1 rfl) ?_
        refine fg_5_7 hZ hx hb hts in5 hown hE hP kd0 lk32 dX5_found_67 ?_
        refine lv_iload_n hx hb dX5_found_70 rfl (lv_at hl 2 rfl) ?_
        obtain ⟨hin71, h⟩ := h
        refine al_17 hZ hx hb hE hP kr_5_7 hin71 dX5_found_71 ?_
        refine lv_iload_n hx hb dX5_found_72 rfl (lv_at hl 4 rfl) ?_
        refine lv_i2d hx hb dX5_found_73 ?_
        refine lv_ldc2d (v := 4620693217682128896) hx hb hown lk235 dX5_found_74 ?_
        obtain ⟨hne, h⟩ := h
        refine lv_ddiv hx hb dX5_found_77 hne ?_
        refine zc_VI (As := [.double (FP.ddiv (FP.i2d x3) 4620693217682128896)]) (rest := []) ⟨hx, hb, hml, hown, hts⟩ (cwV 1 hts gX5_found_X3_countAbove rfl rfl rfl hd_X3_countAbove ⟨Nat.le_of_ble_eq_true rfl, Nat.le_of_ble_eq_true rfl⟩) (mt_X3_countAbove l hZ σ16 _ (kSi hin71) (FP.ddiv (FP.i2d x3) 4620693217682128896) _ h) (rc_3 hZ hE hP (kSi hin71)) hE hP hS rfl hl.1 rfl (Nat.le_of_ble_eq_true rfl) dX5_found_78 ⟨Nat.zero_le _, Nat.zero_le _⟩ (fun r78 σ78 H locs h hP hS => ?_)
        exact zr_I hx hb hr hlocks hP hS h dX5_found_81
      have h := h.2.2 hc0 hc1
      refine lv_lookup (tgt := 82) hx hb dX5_found_30 (by decide) (lsw_out2 hc0 hc1) (by decide) ?_
      refine lv_aload_n hx hb dX5_found_82 rfl (lv_at hl 1 rfl) ?_
      refine fg_5_7 hZ hx hb hts in5 hown hE hP kd0 lk32 dX5_found_83 ?_
      refine lv_iload_n hx hb dX5_found_86 rfl (lv_at hl 2 rfl) ?_
      obtain ⟨hin87, h⟩ := h
      refine al_17 hZ hx hb hE hP kr_5_7 hin87 dX5_found_87 ?_
      refine lv_iload_n hx hb dX5_found_88 rfl (lv_at hl 4 rfl) ?_
      refine lv_i2d hx hb dX5_found_89 ?_
      refine lv_ldc2d (v := 4620693217682128896) hx hb hown lk235 dX5_found_90 ?_
      obtain ⟨hne, h⟩ := h
      refine lv_ddiv hx hb dX5_found_93 hne ?_
      refine zc_VI (As := [.double (FP.ddiv (FP.i2d x3) 4620693217682128896)]) (rest := []) ⟨hx, hb, hml, hown, hts⟩ (cwV 1 hts gX5_found_X3_countBelow rfl rfl rfl hd_X3_countBelow ⟨Nat.le_of_ble_eq_true rfl, Nat.le_of_ble_eq_true rfl⟩) (mt_X3_countBelow l hZ σ16 _ (kSi hin87) (FP.ddiv (FP.i2d x3) 4620693217682128896) _ h) (rc_3 hZ hE hP (kSi hin87)) hE hP hS rfl hl.1 rfl (Nat.le_of_ble_eq_true rfl) dX5_found_94 ⟨Nat.zero_le _, Nat.zero_le _⟩ (fun r94 σ94 H locs h hP hS => ?_)
      exact zr_I hx hb hr hlocks hP hS h dX5_found_97
    · have h := h.2 hc
      refine lv_iload hx hb dX5_found_26 (lv_at hl 0 rfl) ?_
      exact zr_I hx hb hr hlocks hP hS h dX5_found_28
  · have h := h.2 hc
    refine lv_bipush (v := (-2)) hx hb dX5_found_10 (by decide) ?_
    exact zr_I hx hb hr hlocks hP hS h dX5_found_12
theorem hd_X5_countDoubtsForGood : yX5_countDoubtsForGood.cls = RX5 ∧ yX5_countDoubtsForGood.cls ≠ "java/lang/invoke/MethodHandle" ∧ yX5_countDoubtsForGood.cls ≠ "java/lang/invoke/VarHandle" ∧ (parseMethodDescriptor yX5_countDoubtsForGood.desc).map (fun d => d.parameters.length) = some 0 := by decide +kernel
set_option maxHeartbeats 4000000 in
set_option maxRecDepth 100000 in
theorem mt_X5_countDoubtsForGood (l : Launch) {Z : ZW} (hZ : isC Z) (σ : SS) (sz : Nat) (K : SS → Int32 → Prop) (h : wp_X5_countDoubtsForGood σ K) : mtZ l yX5_countDoubtsForGood wsX5_countDoubtsForGood (rm9 0 0) Z [.ref (zq Z 0)] σ sz (qcI Z K sz) := by
  refine Met.ofW (cc := cX5_countDoubtsForGood) (maxL := 3) (ret := (some .int)) (by decide) rfl ?_
  intro p e s m args below meth c s₁ B hml hv
  obtain ⟨hargs, hsz, hP, hE1, hE2, hE3⟩ := hv
  subst hsz
  have hE : envZ Z s := ⟨hE1, hE2, hE3⟩
  have hx := B.exec
  have hb := B.bytes
  have hr := B.returns
  have hlocks := B.notSynchronized
  have hts := atoms_spec (ws := wsX5_countDoubtsForGood) B.pre
  have hown : s.vm.findClass RX5 = some m.cls := findClass_of_methodNamed B.named
  have hS : SZ Z s s.heap [] := va_S.rf
  obtain ⟨ls, hef, hl⟩ := z_entry m hargs (n := 3) (Nat.le_of_ble_eq_true rfl)
  rw [hef]
  have hl : lv_has ls 3 [(0, .ref (zq Z 0))] := hl
  have in1 : ∀ w ∈ u_ws RX1 TX1 8, w ∈ wsX5_countDoubtsForGood := by decide +kernel
  have in4 : ∀ w ∈ u_ws RX4 TX4 5, w ∈ wsX5_countDoubtsForGood := by decide +kernel
  have in5 : ∀ w ∈ u_ws RX5 TX5 15, w ∈ wsX5_countDoubtsForGood := by decide +kernel
  have lk140 := hts (.fieldLink RX5 140 "BeatDoubts" "watcherCount" "I") (by decide +kernel)
  have lk163 := hts (.fieldLink RX5 163 "BeatDoubts$Watcher" "diary" "LBeatDoubts$Diary;") (by decide +kernel)
  have lk182 := hts (.fieldLink RX5 182 "BeatDoubts$Diary" "doubtForGood" "I") (by decide +kernel)
  have lk25 := hts (.fieldLink RX5 25 "BeatDoubts" "watchers" "[LBeatDoubts$Watcher;") (by decide +kernel)
  have B4 : ∀ (n : Nat) (σ : SS) (x1 : Int32) (x2 : Int32) (H : Heap) (locs : List Loc) (ls : Array Slot), fx3 (lb_X5_countDoubtsForGood_4 K) n σ x1 x2 → PZ Z σ H → SZ Z s H locs → lv_has ls 3 [(0, .ref (zq Z 0)), (1, .int x1), (2, .int x2)] → W p l e (headSpec wsX5_countDoubtsForGood (rm9 0 0)).room s m args below meth c H locs 0 0 (MQ below (qcI Z K s.heap.size) args s 0 0 (aZ Z s.heap.size)) (F0 m 4 ls []) := by
    intro n4
    induction n4 with
    | zero => intro σ x1 x2 H locs ls h; exact h.elim
    | succ n4 ih4 =>
      intro σ x1 x2 H locs ls h hP hS hl
      have h : lb_X5_countDoubtsForGood_4 K (fx3 (lb_X5_countDoubtsForGood_4 K) n4) σ x1 x2 := h
      unfold lb_X5_countDoubtsForGood_4 at h
      refine lv_iload_n hx hb dX5_countDoubtsForGood_4 rfl (lv_at hl 2 rfl) ?_
      refine lv_aload_n hx hb dX5_countDoubtsForGood_5 rfl (lv_at hl 0 rfl) ?_
      refine fg_5_6 hZ hx hb hts in5 hown hE hP kd0 lk140 dX5_countDoubtsForGood_6 ?_
      refine lv_icmp_ge (tgt := 37) hx hb dX5_countDoubtsForGood_9 (by decide) (fun hc => ?_) (fun hc => ?_)
      · have h := h.1 hc
        refine lv_iload_n hx hb dX5_countDoubtsForGood_37 rfl (lv_at hl 1 rfl) ?_
        exact zr_I hx hb hr hlocks hP hS h dX5_countDoubtsForGood_38
      · have h := h.2 hc
        refine lv_aload_n hx hb dX5_countDoubtsForGood_12 rfl (lv_at hl 0 rfl) ?_
        refine fg_5_5 hZ hx hb hts in5 hown hE hP kd0 lk25 dX5_countDoubtsForGood_13 ?_
        refine lv_iload_n hx hb dX5_countDoubtsForGood_16 rfl (lv_at hl 2 rfl) ?_
        obtain ⟨hin17, h⟩ := h
        refine al_16 hZ hx hb hE hP kr_5_5 hin17 dX5_countDoubtsForGood_17 ?_
        refine fg_4_4 hZ hx hb hts in4 hown hE hP (kWi hin17) lk163 dX5_countDoubtsForGood_18 ?_
        refine fg_1_7 hZ hx hb hts in1 hown hE hP (kr_4_4 (kWi hin17)) lk182 dX5_countDoubtsForGood_21 ?_
        refine lv_iconst (v := (-1)) hx hb dX5_countDoubtsForGood_24 (by decide) ?_
        refine lv_icmp_eq (tgt := 31) hx hb dX5_countDoubtsForGood_25 (by decide) (fun hc => ?_) (fun hc => ?_)
        · have h := h.1 hc
          refine lv_iinc (v := (x2 + 1)) (lv' := [(2, .int (x2 + 1)), (0, .ref (zq Z 0)), (1, .int x1)]) hx hb dX5_countDoubtsForGood_31 hl (k := 2) rfl rfl (by decide) rfl (fun ls hl => ?_)
          refine lv_goto (tgt := 4) hx hb dX5_countDoubtsForGood_34 (by decide) ?_
          exact ih4 σ x1 (x2 + 1) _ _ _ h hP hS (lv_sub hl [1, 2, 0] rfl)
        · have h := h.2 hc
          refine lv_iinc (v := (x1 + 1)) (lv' := [(1, .int (x1 + 1)), (0, .ref (zq Z 0)), (2, .int x2)]) hx hb dX5_countDoubtsForGood_28 hl (k := 1) rfl rfl (by decide) rfl (fun ls hl => ?_)
          refine lv_iinc (v := (x2 + 1)) (lv' := [(2, .int (x2 + 1)), (1, .int (x1 + 1)), (0, .ref (zq Z 0))]) hx hb dX5_countDoubtsForGood_31 hl (k := 2) rfl rfl (by decide) rfl (fun ls hl => ?_)
          refine lv_goto (tgt := 4) hx hb dX5_countDoubtsForGood_34 (by decide) ?_
          exact ih4 σ (x1 + 1) (x2 + 1) _ _ _ h hP hS (lv_sub hl [2, 1, 0] rfl)
  unfold wp_X5_countDoubtsForGood at h
  refine lv_iconst (v := 0) hx hb dX5_countDoubtsForGood_0 (by decide) ?_
  refine lv_istore_n (lv' := [(1, .int 0), (0, .ref (zq Z 0))]) hx hb dX5_countDoubtsForGood_1 rfl hl (by decide) rfl (fun ls hl => ?_)
  refine lv_iconst (v := 0) hx hb dX5_countDoubtsForGood_2 (by decide) ?_
  refine lv_istore_n (lv' := [(2, .int 0), (1, .int 0), (0, .ref (zq Z 0))]) hx hb dX5_countDoubtsForGood_3 rfl hl (by decide) rfl (fun ls hl => ?_)
  obtain ⟨n, h⟩ := h
  exact B4 n σ 0 0 _ _ _ h hP hS (lv_sub hl [2, 1, 0] rfl)
