theorem hd_X6_noticed : yX6_noticed.cls = RX6 ∧ yX6_noticed.cls ≠ "java/lang/invoke/MethodHandle" ∧ yX6_noticed.cls ≠ "java/lang/invoke/VarHandle" ∧ (parseMethodDescriptor yX6_noticed.desc).map (fun d => d.parameters.length) = some 1 := by decide +kernel
set_option maxHeartbeats 4000000 in
set_option maxRecDepth 100000 in
theorem mt_X6_noticed (l : Launch) {Z : ZW} (hZ : isM Z) (σ : SS) (sz : Nat) (x1 : Int32) (K : SS → Int32 → Prop) (h : wp_X6_noticed σ x1 K) : mtZ l yX6_noticed wsX6_noticed (rm9 8 187) Z [.ref (zq Z 100), .int x1] σ sz (qcI Z K sz) := by
  refine Met.ofW (cc := cX6_noticed) (maxL := 2) (ret := (some .int)) (by decide) rfl ?_
  intro p e s m args below meth c s₁ B hml hv
  obtain ⟨hargs, hsz, hP, hE1, hE2, hE3⟩ := hv
  subst hsz
  have hE : envZ Z s := ⟨hE1, hE2, hE3⟩
  have hx := B.exec
  have hb := B.bytes
  have hr := B.returns
  have hlocks := B.notSynchronized
  have hts := atoms_spec (ws := wsX6_noticed) B.pre
  have hown : s.vm.findClass RX6 = some m.cls := findClass_of_methodNamed B.named
  have hS : SZ Z s s.heap [] := va_S.rf
  obtain ⟨ls, hef, hl⟩ := z_entry m hargs (n := 2) (Nat.le_of_ble_eq_true rfl)
  rw [hef]
  have hl : lv_has ls 2 [(0, .ref (zq Z 100)), (1, .int x1)] := hl
  unfold wp_X6_noticed at h
  refine lv_aload_n hx hb dX6_noticed_0 rfl (lv_at hl 0 rfl) ?_
  refine lv_iload_n hx hb dX6_noticed_1 rfl (lv_at hl 1 rfl) ?_
  refine zc_VI (As := [.int x1]) (rest := []) ⟨hx, hb, hml, hown, hts⟩ (cwV 1 hts gX6_noticed_X6_isWatcher rfl rfl rfl hd_X6_isWatcher ⟨Nat.le_of_ble_eq_true rfl, Nat.le_of_ble_eq_true rfl⟩) (mt_X6_isWatcher l hZ σ _ x1 _ h) (rc_6 hZ hE hP kd100) hE hP hS rfl hl.1 rfl (Nat.le_of_ble_eq_true rfl) dX6_noticed_2 ⟨Nat.zero_le _, Nat.zero_le _⟩ (fun r2 σ2 H locs h hP hS => ?_)
  refine lv_if_eq (tgt := 16) hx hb dX6_noticed_5 (by decide) (fun hc => ?_) (fun hc => ?_)
  · have h := h.1 hc
    refine lv_bipush (v := (-2)) hx hb dX6_noticed_16 (by decide) ?_
    exact zr_I hx hb hr hlocks hP hS h dX6_noticed_18
  · have h := h.2 hc
    refine lv_aload_n hx hb dX6_noticed_8 rfl (lv_at hl 0 rfl) ?_
    refine lv_iload_n hx hb dX6_noticed_9 rfl (lv_at hl 1 rfl) ?_
    refine zc_VI (As := [.int x1]) (rest := []) ⟨hx, hb, hml, hown, hts⟩ (cwV 1 hts gX6_noticed_X6_noticedOf rfl rfl rfl hd_X6_noticedOf ⟨Nat.le_of_ble_eq_true rfl, Nat.le_of_ble_eq_true rfl⟩) (mt_X6_noticedOf l hZ σ2 _ x1 _ h) (rc_6 hZ hE hP kd100) hE hP hS rfl hl.1 rfl (Nat.le_of_ble_eq_true rfl) dX6_noticed_10 ⟨Nat.zero_le _, Nat.zero_le _⟩ (fun r10 σ10 H locs h hP hS => ?_)
    refine lv_goto (tgt := 18) hx hb dX6_noticed_13 (by decide) ?_
    exact zr_I hx hb hr hlocks hP hS h dX6_noticed_18
theorem hd_X6_leastOf : yX6_leastOf.cls = RX6 ∧ yX6_leastOf.cls ≠ "java/lang/invoke/MethodHandle" ∧ yX6_leastOf.cls ≠ "java/lang/invoke/VarHandle" ∧ (parseMethodDescriptor yX6_leastOf.desc).map (fun d => d.parameters.length) = some 2 := by decide +kernel
set_option maxHeartbeats 4000000 in
set_option maxRecDepth 100000 in
theorem mt_X6_leastOf (l : Launch) {Z : ZW} (hZ : isM Z) (σ : SS) (sz : Nat) (x1 : Int32) (x2 : Int32) (K : SS → Int32 → Prop) (h : wp_X6_leastOf σ x1 x2 K) : mtZ l yX6_leastOf wsX6_leastOf (rm9 5 123) Z [.ref (zq Z 100), .int x1, .int x2] σ sz (qcI Z K sz) := by
  refine Met.ofW (cc := cX6_leastOf) (maxL := 5) (ret := (some .int)) (by decide) rfl ?_
  intro p e s m args below meth c s₁ B hml hv
  obtain ⟨hargs, hsz, hP, hE1, hE2, hE3⟩ := hv
  subst hsz
  have hE : envZ Z s := ⟨hE1, hE2, hE3⟩
  have hx := B.exec
  have hb := B.bytes
  have hr := B.returns
  have hlocks := B.notSynchronized
  have hts := atoms_spec (ws := wsX6_leastOf) B.pre
  have hown : s.vm.findClass RX6 = some m.cls := findClass_of_methodNamed B.named
  have hS : SZ Z s s.heap [] := va_S.rf
  obtain ⟨ls, hef, hl⟩ := z_entry m hargs (n := 5) (Nat.le_of_ble_eq_true rfl)
  rw [hef]
  have hl : lv_has ls 5 [(0, .ref (zq Z 100)), (1, .int x1), (2, .int x2)] := hl
  have in6 : ∀ w ∈ u_ws RX6 TX6 28, w ∈ wsX6_leastOf := by decide +kernel
  have lk169 := hts (.fieldLink RX6 169 "BeatDoubtsModel" "mistakes" "I") (by decide +kernel)
  have B13 : ∀ (n : Nat) (σ : SS) (x1 : Int32) (x2 : Int32) (x3 : Int32) (x4 : Int32) (H : Heap) (locs : List Loc) (ls : Array Slot), fx5 (lb_X6_leastOf_13 K) n σ x1 x2 x3 x4 → PZ Z σ H → SZ Z s H locs → lv_has ls 5 [(0, .ref (zq Z 100)), (1, .int x1), (2, .int x2), (3, .int x3), (4, .int x4)] → W p l e (headSpec wsX6_leastOf (rm9 5 123)).room s m args below meth c H locs 0 0 (MQ below (qcI Z K s.heap.size) args s 0 0 (aZ Z s.heap.size)) (F0 m 13 ls []) := by
    intro n13
    induction n13 with
    | zero => intro σ x1 x2 x3 x4 H locs ls h; exact h.elim
    | succ n13 ih13 =>
      intro σ x1 x2 x3 x4 H locs ls h hP hS hl
      have h : lb_X6_leastOf_13 K (fx5 (lb_X6_leastOf_13 K) n13) σ x1 x2 x3 x4 := h
      unfold lb_X6_leastOf_13 at h
      refine lv_iload_n hx hb dX6_leastOf_13 rfl (lv_at hl 1 rfl) ?_
      refine lv_iload hx hb dX6_leastOf_14 (lv_at hl 4 rfl) ?_
      refine zc_SI (As := [.int x1, .int x4]) (rest := []) ⟨hx, hb, hml, hown, hts⟩ (va_cwS 2 hts gX6_leastOf_X6_isMeasure rfl rfl rfl hd_X6_isMeasure ⟨Nat.le_of_ble_eq_true rfl, Nat.le_of_ble_eq_true rfl⟩) (mt_X6_isMeasure l hZ σ _ x1 x4 _ h) hE hP hS rfl hl.1 rfl (Nat.le_of_ble_eq_true rfl) dX6_leastOf_16 ⟨Nat.zero_le _, Nat.zero_le _⟩ (fun r16 σ16 H locs h hP hS => ?_)
      refine lv_if_eq (tgt := 55) hx hb dX6_leastOf_19 (by decide) (fun hc => ?_) (fun hc => ?_)
      · have h := h.1 hc
        refine lv_iload_n hx hb dX6_leastOf_55 rfl (lv_at hl 3 rfl) ?_
        exact zr_I hx hb hr hlocks hP hS h dX6_leastOf_56
      · have h := h.2 hc
        refine lv_iload_n hx hb dX6_leastOf_22 rfl (lv_at hl 3 rfl) ?_
        refine lv_iconst (v := (-1)) hx hb dX6_leastOf_23 (by decide) ?_
        refine lv_icmp_ne (tgt := 55) hx hb dX6_leastOf_24 (by decide) (fun hc => ?_) (fun hc => ?_)
        · have h := h.1 hc
          refine lv_iload_n hx hb dX6_leastOf_55 rfl (lv_at hl 3 rfl) ?_
          exact zr_I hx hb hr hlocks hP hS h dX6_leastOf_56
        · have h := h.2 hc
          refine lv_aload_n hx hb dX6_leastOf_27 rfl (lv_at hl 0 rfl) ?_
          refine lv_iload_n hx hb dX6_leastOf_28 rfl (lv_at hl 1 rfl) ?_
          refine lv_iload hx hb dX6_leastOf_29 (lv_at hl 4 rfl) ?_
          refine zc_VV (As := [.int x1, .int x4]) (rest := []) ⟨hx, hb, hml, hown, hts⟩ (cwV 2 hts gX6_leastOf_X6_goes rfl rfl rfl hd_X6_goes ⟨Nat.le_of_ble_eq_true rfl, Nat.le_of_ble_eq_true rfl⟩) (mt_X6_goes l hZ σ16 _ x1 x4 _ h) (rc_6 hZ hE hP kd100) hE hP hS rfl hl.1 rfl (Nat.le_of_ble_eq_true rfl) dX6_leastOf_31 ⟨Nat.zero_le _, Nat.zero_le _⟩ (fun σ31 H locs h hP hS => ?_)
          refine lv_aload_n hx hb dX6_leastOf_34 rfl (lv_at hl 0 rfl) ?_
          refine fg_6_15 hZ hx hb hts in6 hown hE hP kd100 lk169 dX6_leastOf_35 ?_
          refine lv_iload_n hx hb dX6_leastOf_38 rfl (lv_at hl 2 rfl) ?_
          refine lv_icmp_gt (tgt := 47) hx hb dX6_leastOf_39 (by decide) (fun hc => ?_) (fun hc => ?_)
          · have h := h.1 hc
            refine lv_iconst (v := (-1)) hx hb dX6_leastOf_47 (by decide) ?_
            refine lv_istore_n (lv' := [(3, .int (-1)), (0, .ref (zq Z 100)), (1, .int x1), (2, .int x2), (4, .int x4)]) hx hb dX6_leastOf_48 rfl hl (by decide) rfl (fun ls hl => ?_)
            refine lv_iinc (v := (x4 + 1)) (lv' := [(4, .int (x4 + 1)), (3, .int (-1)), (0, .ref (zq Z 100)), (1, .int x1), (2, .int x2)]) hx hb dX6_leastOf_49 hl (k := 4) rfl rfl (by decide) rfl (fun ls hl => ?_)
            refine lv_goto (tgt := 13) hx hb dX6_leastOf_52 (by decide) ?_
            exact ih13 σ31 x1 x2 (-1) (x4 + 1) _ _ _ h hP hS (lv_sub hl [2, 3, 4, 1, 0] rfl)
          · have h := h.2 hc
            refine lv_iload hx hb dX6_leastOf_42 (lv_at hl 4 rfl) ?_
            refine lv_goto (tgt := 48) hx hb dX6_leastOf_44 (by decide) ?_
            refine lv_istore_n (lv' := [(3, .int x4), (0, .ref (zq Z 100)), (1, .int x1), (2, .int x2), (4, .int x4)]) hx hb dX6_leastOf_48 rfl hl (by decide) rfl (fun ls hl => ?_)
            refine lv_iinc (v := (x4 + 1)) (lv' := [(4, .int (x4 + 1)), (3, .int x4), (0, .ref (zq Z 100)), (1, .int x1), (2, .int x2)]) hx hb dX6_leastOf_49 hl (k := 4) rfl rfl (by decide) rfl (fun ls hl => ?_)
            refine lv_goto (tgt := 13) hx hb dX6_leastOf_52 (by decide) ?_
            exact ih13 σ31 x1 x2 x4 (x4 + 1) _ _ _ h hP hS (lv_sub hl [2, 3, 4, 1, 0] rfl)
  unfold wp_X6_leastOf at h
  refine lv_iconst (v := (-1)) hx hb dX6_leastOf_0 (by decide) ?_
  refine lv_istore_n (lv' := [(3, .int (-1)), (0, .ref (zq Z 100)), (1, .int x1), (2, .int x2)]) hx hb dX6_leastOf_1 rfl hl (by decide) rfl (fun ls hl => ?_)
  refine lv_iload_n hx hb dX6_leastOf_2 rfl (lv_at hl 2 rfl) ?_
  refine lv_if_ne (tgt := 10) hx hb dX6_leastOf_3 (by decide) (fun hc => ?_) (fun hc => ?_)
  · have h := h.1 hc
    refine lv_iconst (v := 1) hx hb dX6_leastOf_10 (by decide) ?_
    refine lv_istore (lv' := [(4, .int 1), (3, .int (-1)), (0, .ref (zq Z 100)), (1, .int x1), (2, .int x2)]) hx hb dX6_leastOf_11 hl (by decide) rfl (fun ls hl => ?_)
    obtain ⟨n, h⟩ := h
    exact B13 n σ x1 x2 (-1) 1 _ _ _ h hP hS (lv_sub hl [2, 3, 4, 1, 0] rfl)
  · have h := h.2 hc
    refine lv_iconst (v := 0) hx hb dX6_leastOf_6 (by decide) ?_
    refine lv_goto (tgt := 11) hx hb dX6_leastOf_7 (by decide) ?_
    refine lv_istore (lv' := [(4, .int 0), (3, .int (-1)), (0, .ref (zq Z 100)), (1, .int x1), (2, .int x2)]) hx hb dX6_leastOf_11 hl (by decide) rfl (fun ls hl => ?_)
    obtain ⟨n, h⟩ := h
    exact B13 n σ x1 x2 (-1) 0 _ _ _ h hP hS (lv_sub hl [2, 3, 4, 1, 0] rfl)
theorem hd_X6_least : yX6_least.cls = RX6 ∧ yX6_least.cls ≠ "java/lang/invoke/MethodHandle" ∧ yX6_least.cls ≠ "java/lang/invoke/VarHandle" ∧ (parseMethodDescriptor yX6_least.desc).map (fun d => d.parameters.length) = some 2 := by decide +kernel
set_option maxHeartbeats 4000000 in
set_option maxRecDepth 100000 in
theorem mt_X6_least (l : Launch) {Z : ZW} (hZ : isM Z) (σ : SS) (sz : Nat) (x1 : Int32) (x2 : Int32) (K : SS → Int32 → Prop) (h : wp_X6_least σ x1 x2 K) : mtZ l yX6_least wsX6_least (rm9 6 147) Z [.ref (zq Z 100), .int x1, .int x2] σ sz (qcI Z K sz) := by
  refine Met.ofW (cc := cX6_least) (maxL := 3) (ret := (some .int)) (by decide) rfl ?_
  intro p e s m args below meth c s₁ B hml hv
  obtain ⟨hargs, hsz, hP, hE1, hE2, hE3⟩ := hv
  subst hsz
  have hE : envZ Z s := ⟨hE1, hE2, hE3⟩
  have hx := B.exec
  have hb := B.bytes
  have hr := B.returns
  have hlocks := B.notSynchronized
  have hts := atoms_spec (ws := wsX6_least) B.pre
  have hown : s.vm.findClass RX6 = some m.cls := findClass_of_methodNamed B.named
  have hS : SZ Z s s.heap [] := va_S.rf
  obtain ⟨ls, hef, hl⟩ := z_entry m hargs (n := 3) (Nat.le_of_ble_eq_true rfl)
  rw [hef]
  have hl : lv_has ls 3 [(0, .ref (zq Z 100)), (1, .int x1), (2, .int x2)] := hl
  unfold wp_X6_least at h
  refine lv_iload_n hx hb dX6_least_0 rfl (lv_at hl 1 rfl) ?_
  refine lv_iconst (v := 0) hx hb dX6_least_1 (by decide) ?_
  refine lv_iconst (v := 2) hx hb dX6_least_2 (by decide) ?_
  refine zc_SI (As := [.int x1, .int 0, .int 2]) (rest := []) ⟨hx, hb, hml, hown, hts⟩ (va_cwS 3 hts gX6_least_X6_in rfl rfl rfl hd_X6_in ⟨Nat.le_of_ble_eq_true rfl, Nat.le_of_ble_eq_true rfl⟩) (mt_X6_in l hZ σ _ x1 0 2 _ h) hE hP hS rfl hl.1 rfl (Nat.le_of_ble_eq_true rfl) dX6_least_3 ⟨Nat.zero_le _, Nat.zero_le _⟩ (fun r3 σ3 H locs h hP hS => ?_)
  refine lv_if_eq (tgt := 28) hx hb dX6_least_6 (by decide) (fun hc => ?_) (fun hc => ?_)
  · have h := h.1 hc
    refine lv_bipush (v := (-2)) hx hb dX6_least_28 (by decide) ?_
    exact zr_I hx hb hr hlocks hP hS h dX6_least_30
  · have h := h.2 hc
    refine lv_iload_n hx hb dX6_least_9 rfl (lv_at hl 2 rfl) ?_
    refine lv_iconst (v := 0) hx hb dX6_least_10 (by decide) ?_
    refine lv_bipush (v := 40) hx hb dX6_least_11 (by decide) ?_
    refine zc_SI (As := [.int x2, .int 0, .int 40]) (rest := []) ⟨hx, hb, hml, hown, hts⟩ (va_cwS 3 hts gX6_least_X6_in rfl rfl rfl hd_X6_in ⟨Nat.le_of_ble_eq_true rfl, Nat.le_of_ble_eq_true rfl⟩) (mt_X6_in l hZ σ3 _ x2 0 40 _ h) hE hP hS rfl hl.1 rfl (Nat.le_of_ble_eq_true rfl) dX6_least_13 ⟨Nat.zero_le _, Nat.zero_le _⟩ (fun r13 σ13 H locs h hP hS => ?_)
    refine lv_if_eq (tgt := 28) hx hb dX6_least_16 (by decide) (fun hc => ?_) (fun hc => ?_)
    · have h := h.1 hc
      refine lv_bipush (v := (-2)) hx hb dX6_least_28 (by decide) ?_
      exact zr_I hx hb hr hlocks hP hS h dX6_least_30
    · have h := h.2 hc
      refine lv_aload_n hx hb dX6_least_19 rfl (lv_at hl 0 rfl) ?_
      refine lv_iload_n hx hb dX6_least_20 rfl (lv_at hl 1 rfl) ?_
      refine lv_iload_n hx hb dX6_least_21 rfl (lv_at hl 2 rfl) ?_
      refine zc_VI (As := [.int x1, .int x2]) (rest := []) ⟨hx, hb, hml, hown, hts⟩ (cwV 2 hts gX6_least_X6_leastOf rfl rfl rfl hd_X6_leastOf ⟨Nat.le_of_ble_eq_true rfl, Nat.le_of_ble_eq_true rfl⟩) (mt_X6_leastOf l hZ σ13 _ x1 x2 _ h) (rc_6 hZ hE hP kd100) hE hP hS rfl hl.1 rfl (Nat.le_of_ble_eq_true rfl) dX6_least_22 ⟨Nat.zero_le _, Nat.zero_le _⟩ (fun r22 σ22 H locs h hP hS => ?_)
      refine lv_goto (tgt := 30) hx hb dX6_least_25 (by decide) ?_
      exact zr_I hx hb hr hlocks hP hS h dX6_least_30
theorem hd_X6_greatest : yX6_greatest.cls = RX6 ∧ yX6_greatest.cls ≠ "java/lang/invoke/MethodHandle" ∧ yX6_greatest.cls ≠ "java/lang/invoke/VarHandle" ∧ (parseMethodDescriptor yX6_greatest.desc).map (fun d => d.parameters.length) = some 2 := by decide +kernel
set_option maxHeartbeats 4000000 in
set_option maxRecDepth 100000 in
theorem mt_X6_greatest (l : Launch) {Z : ZW} (hZ : isM Z) (σ : SS) (sz : Nat) (x1 : Int32) (x2 : Int32) (K : SS → Int32 → Prop) (h : wp_X6_greatest σ x1 x2 K) : mtZ l yX6_greatest wsX6_greatest (rm9 7 165) Z [.ref (zq Z 100), .int x1, .int x2] σ sz (qcI Z K sz) := by
  refine Met.ofW (cc := cX6_greatest) (maxL := 8) (ret := (some .int)) (by decide) rfl ?_
  intro p e s m args below meth c s₁ B hml hv
  obtain ⟨hargs, hsz, hP, hE1, hE2, hE3⟩ := hv
  subst hsz
  have hE : envZ Z s := ⟨hE1, hE2, hE3⟩
  have hx := B.exec
  have hb := B.bytes
  have hr := B.returns
  have hlocks := B.notSynchronized
  have hts := atoms_spec (ws := wsX6_greatest) B.pre
  have hown : s.vm.findClass RX6 = some m.cls := findClass_of_methodNamed B.named
  have hS : SZ Z s s.heap [] := va_S.rf
  obtain ⟨ls, hef, hl⟩ := z_entry m hargs (n := 8) (Nat.le_of_ble_eq_true rfl)
  rw [hef]
  have hl : lv_has ls 8 [(0, .ref (zq Z 100)), (1, .int x1), (2, .int x2)] := hl
  have in6 : ∀ w ∈ u_ws RX6 TX6 28, w ∈ wsX6_greatest := by decide +kernel
  have lk13 := hts (.fieldLink RX6 13 "BeatDoubtsModel" "periodNow" "I") (by decide +kernel)
  have B12 : ∀ (n : Nat) (σ : SS) (x1 : Int32) (x2 : Int32) (x3 : Int32) (x4 : Int32) (x5 : Int32) (H : Heap) (locs : List Loc) (ls : Array Slot), fx6 (lb_X6_greatest_12 K) n σ x1 x2 x3 x4 x5 → PZ Z σ H → SZ Z s H locs → lv_has ls 8 [(0, .ref (zq Z 100)), (1, .int x1), (2, .int x2), (3, .int x3), (4, .int x4), (5, .int x5)] → W p l e (headSpec wsX6_greatest (rm9 7 165)).room s m args below meth c H locs 0 0 (MQ below (qcI Z K s.heap.size) args s 0 0 (aZ Z s.heap.size)) (F0 m 12 ls []) := by
    intro n12
    induction n12 with
    | zero => intro σ x1 x2 x3 x4 x5 H locs ls h; exact h.elim
    | succ n12 ih12 =>
      have B68 : ∀ (σ : SS) (x1 : Int32) (x2 : Int32) (x3 : Int32) (x5 : Int32) (x6 : Int32) (H : Heap) (locs : List Loc) (ls : Array Slot), bl_X6_greatest_68 K (fx6 (lb_X6_greatest_12 K) n12) σ x1 x2 x3 x5 x6 → PZ Z σ H → SZ Z s H locs → lv_has ls 8 [(0, .ref (zq Z 100)), (1, .int x1), (2, .int x2), (3, .int x3), (5, .int x5), (6, .int x6)] → W p l e (headSpec wsX6_greatest (rm9 7 165)).room s m args below meth c H locs 0 0 (MQ below (qcI Z K s.heap.size) args s 0 0 (aZ Z s.heap.size)) (F0 m 68 ls []) := by
        intro σ x1 x2 x3 x5 x6 H locs ls h hP hS hl
        unfold bl_X6_greatest_68 at h
        refine lv_iload hx hb dX6_greatest_68 (lv_at hl 5 rfl) ?_
        refine lv_if_eq (tgt := 78) hx hb dX6_greatest_70 (by decide) (fun hc => ?_) (fun hc => ?_)
        · have h := h.1 hc
          refine lv_iconst (v := (-1)) hx hb dX6_greatest_78 (by decide) ?_
          refine lv_istore (lv' := [(4, .int (-1)), (0, .ref (zq Z 100)), (1, .int x1), (2, .int x2), (3, .int x3), (5, .int x5), (6, .int x6)]) hx hb dX6_greatest_79 hl (by decide) rfl (fun ls hl => ?_)
          refine lv_iinc (v := (x5 + (-1))) (lv' := [(5, .int (x5 + (-1))), (4, .int (-1)), (0, .ref (zq Z 100)), (1, .int x1), (2, .int x2), (3, .int x3), (6, .int x6)]) hx hb dX6_greatest_81 hl (k := 5) rfl rfl (by decide) rfl (fun ls hl => ?_)
          refine lv_goto (tgt := 12) hx hb dX6_greatest_84 (by decide) ?_
          exact ih12 σ x1 x2 x3 (-1) (x5 + (-1)) _ _ _ h hP hS (lv_sub hl [2, 3, 4, 5, 1, 0] rfl)
        · have h := h.2 hc
          refine lv_iload hx hb dX6_greatest_73 (lv_at hl 4 rfl) ?_
          refine lv_goto (tgt := 79) hx hb dX6_greatest_75 (by decide) ?_
          refine lv_istore (lv' := [(4, .int x5), (0, .ref (zq Z 100)), (1, .int x1), (2, .int x2), (3, .int x3), (5, .int x5), (6, .int x6)]) hx hb dX6_greatest_79 hl (by decide) rfl (fun ls hl => ?_)
          refine lv_iinc (v := (x5 + (-1))) (lv' := [(5, .int (x5 + (-1))), (4, .int x5), (0, .ref (zq Z 100)), (1, .int x1), (2, .int x2), (3, .int x3), (6, .int x6)]) hx hb dX6_greatest_81 hl (k := 5) rfl rfl (by decide) rfl (fun ls hl => ?_)
          refine lv_goto (tgt := 12) hx hb dX6_greatest_84 (by decide) ?_
          exact ih12 σ x1 x2 x3 x5 (x5 + (-1)) _ _ _ h hP hS (lv_sub hl [2, 3, 4, 5, 1, 0] rfl)
      have B35 : ∀ (n : Nat) (σ : SS) (x1 : Int32) (x2 : Int32) (x3 : Int32) (x5 : Int32) (x6 : Int32) (x7 : Int32) (H : Heap) (locs : List Loc) (ls : Array Slot), fx7 (lb_X6_greatest_35 K (fx6 (lb_X6_greatest_12 K) n12)) n σ x1 x2 x3 x5 x6 x7 → PZ Z σ H → SZ Z s H locs → lv_has ls 8 [(0, .ref (zq Z 100)), (1, .int x1), (2, .int x2), (3, .int x3), (5, .int x5), (6, .int x6), (7, .int x7)] → W p l e (headSpec wsX6_greatest (rm9 7 165)).room s m args below meth c H locs 0 0 (MQ below (qcI Z K s.heap.size) args s 0 0 (aZ Z s.heap.size)) (F0 m 35 ls []) := by
        intro n35
        induction n35 with
        | zero => intro σ x1 x2 x3 x5 x6 x7 H locs ls h; exact h.elim
        | succ n35 ih35 =>
          intro σ x1 x2 x3 x5 x6 x7 H locs ls h hP hS hl
          have h : lb_X6_greatest_35 K (fx6 (lb_X6_greatest_12 K) n12) (fx7 (lb_X6_greatest_35 K (fx6 (lb_X6_greatest_12 K) n12)) n35) σ x1 x2 x3 x5 x6 x7 := h
          unfold lb_X6_greatest_35 at h
          refine lv_iload hx hb dX6_greatest_35 (lv_at hl 6 rfl) ?_
          refine lv_iload_n hx hb dX6_greatest_37 rfl (lv_at hl 2 rfl) ?_
          refine lv_icmp_gt (tgt := 68) hx hb dX6_greatest_38 (by decide) (fun hc => ?_) (fun hc => ?_)
          · have h := h.1 hc
            exact B68 σ x1 x2 x3 x5 x6 _ _ _ h hP hS (lv_sub hl [0, 1, 2, 3, 4, 5] rfl)
          · have h := h.2 hc
            refine lv_iload hx hb dX6_greatest_41 (lv_at hl 5 rfl) ?_
            refine lv_if_eq (tgt := 59) hx hb dX6_greatest_43 (by decide) (fun hc => ?_) (fun hc => ?_)
            · have h := h.1 hc
              refine lv_iconst (v := 0) hx hb dX6_greatest_59 (by decide) ?_
              refine lv_istore (lv' := [(6, .int 0), (0, .ref (zq Z 100)), (1, .int x1), (2, .int x2), (3, .int x3), (5, .int x5), (7, .int x7)]) hx hb dX6_greatest_60 hl (by decide) rfl (fun ls hl => ?_)
              refine lv_iinc (v := (x7 + 1)) (lv' := [(7, .int (x7 + 1)), (6, .int 0), (0, .ref (zq Z 100)), (1, .int x1), (2, .int x2), (3, .int x3), (5, .int x5)]) hx hb dX6_greatest_62 hl (k := 6) rfl rfl (by decide) rfl (fun ls hl => ?_)
              refine lv_goto (tgt := 35) hx hb dX6_greatest_65 (by decide) ?_
              exact ih35 σ x1 x2 x3 x5 0 (x7 + 1) _ _ _ h hP hS (lv_sub hl [2, 3, 4, 5, 6, 1, 0] rfl)
            · have h := h.2 hc
              refine lv_aload_n hx hb dX6_greatest_46 rfl (lv_at hl 0 rfl) ?_
              refine lv_iload hx hb dX6_greatest_47 (lv_at hl 6 rfl) ?_
              refine zc_VI (As := [.int x7]) (rest := []) ⟨hx, hb, hml, hown, hts⟩ (cwV 1 hts gX6_greatest_X6_isKept rfl rfl rfl hd_X6_isKept ⟨Nat.le_of_ble_eq_true rfl, Nat.le_of_ble_eq_true rfl⟩) (mt_X6_isKept l hZ σ _ x7 _ h) (rc_6 hZ hE hP kd100) hE hP hS rfl hl.1 rfl (Nat.le_of_ble_eq_true rfl) dX6_greatest_49 ⟨Nat.zero_le _, Nat.zero_le _⟩ (fun r49 σ49 H locs h hP hS => ?_)
              refine lv_if_eq (tgt := 59) hx hb dX6_greatest_52 (by decide) (fun hc => ?_) (fun hc => ?_)
              · have h := h.1 hc
                refine lv_iconst (v := 0) hx hb dX6_greatest_59 (by decide) ?_
                refine lv_istore (lv' := [(6, .int 0), (0, .ref (zq Z 100)), (1, .int x1), (2, .int x2), (3, .int x3), (5, .int x5), (7, .int x7)]) hx hb dX6_greatest_60 hl (by decide) rfl (fun ls hl => ?_)
                refine lv_iinc (v := (x7 + 1)) (lv' := [(7, .int (x7 + 1)), (6, .int 0), (0, .ref (zq Z 100)), (1, .int x1), (2, .int x2), (3, .int x3), (5, .int x5)]) hx hb dX6_greatest_62 hl (k := 6) rfl rfl (by decide) rfl (fun ls hl => ?_)
                refine lv_goto (tgt := 35) hx hb dX6_greatest_65 (by decide) ?_
                exact ih35 σ49 x1 x2 x3 x5 0 (x7 + 1) _ _ _ h hP hS (lv_sub hl [2, 3, 4, 5, 6, 1, 0] rfl)
              · have h := h.2 hc
                refine lv_iconst (v := 1) hx hb dX6_greatest_55 (by decide) ?_
                refine lv_goto (tgt := 60) hx hb dX6_greatest_56 (by decide) ?_
                refine lv_istore (lv' := [(6, .int 1), (0, .ref (zq Z 100)), (1, .int x1), (2, .int x2), (3, .int x3), (5, .int x5), (7, .int x7)]) hx hb dX6_greatest_60 hl (by decide) rfl (fun ls hl => ?_)
                refine lv_iinc (v := (x7 + 1)) (lv' := [(7, .int (x7 + 1)), (6, .int 1), (0, .ref (zq Z 100)), (1, .int x1), (2, .int x2), (3, .int x3), (5, .int x5)]) hx hb dX6_greatest_62 hl (k := 6) rfl rfl (by decide) rfl (fun ls hl => ?_)
                refine lv_goto (tgt := 35) hx hb dX6_greatest_65 (by decide) ?_
                exact ih35 σ49 x1 x2 x3 x5 1 (x7 + 1) _ _ _ h hP hS (lv_sub hl [2, 3, 4, 5, 6, 1, 0] rfl)
      intro σ x1 x2 x3 x4 x5 H locs ls h hP hS hl
      have h : lb_X6_greatest_12 K (fx6 (lb_X6_greatest_12 K) n12) σ x1 x2 x3 x4 x5 := h
      unfold lb_X6_greatest_12 at h
      refine lv_iload hx hb dX6_greatest_12 (lv_at hl 5 rfl) ?_
      refine lv_if_le (tgt := 87) hx hb dX6_greatest_14 (by decide) (fun hc => ?_) (fun hc => ?_)
      · have h := h.1 hc
        refine lv_aload_n hx hb dX6_greatest_87 rfl (lv_at hl 0 rfl) ?_
        refine lv_iload_n hx hb dX6_greatest_88 rfl (lv_at hl 3 rfl) ?_
        refine fp_6_2 hZ hx hb hts in6 hown hE hP hS kd100 lk13 dX6_greatest_89 (fun H locs hP hS => ?_)
        refine lv_iload hx hb dX6_greatest_92 (lv_at hl 4 rfl) ?_
        exact zr_I hx hb hr hlocks hP hS h dX6_greatest_94
      · have h := h.2 hc
        refine lv_iload hx hb dX6_greatest_17 (lv_at hl 4 rfl) ?_
        refine lv_iconst (v := (-1)) hx hb dX6_greatest_19 (by decide) ?_
        refine lv_icmp_ne (tgt := 87) hx hb dX6_greatest_20 (by decide) (fun hc => ?_) (fun hc => ?_)
        · have h := h.1 hc
          refine lv_aload_n hx hb dX6_greatest_87 rfl (lv_at hl 0 rfl) ?_
          refine lv_iload_n hx hb dX6_greatest_88 rfl (lv_at hl 3 rfl) ?_
          refine fp_6_2 hZ hx hb hts in6 hown hE hP hS kd100 lk13 dX6_greatest_89 (fun H locs hP hS => ?_)
          refine lv_iload hx hb dX6_greatest_92 (lv_at hl 4 rfl) ?_
          exact zr_I hx hb hr hlocks hP hS h dX6_greatest_94
        · have h := h.2 hc
          refine lv_aload_n hx hb dX6_greatest_23 rfl (lv_at hl 0 rfl) ?_
          refine lv_iload hx hb dX6_greatest_24 (lv_at hl 5 rfl) ?_
          refine fp_6_2 hZ hx hb hts in6 hown hE hP hS kd100 lk13 dX6_greatest_26 (fun H locs hP hS => ?_)
          refine lv_iconst (v := 1) hx hb dX6_greatest_29 (by decide) ?_
          refine lv_istore (lv' := [(6, .int 1), (0, .ref (zq Z 100)), (1, .int x1), (2, .int x2), (3, .int x3), (4, .int x4), (5, .int x5)]) hx hb dX6_greatest_30 hl (by decide) rfl (fun ls hl => ?_)
          refine lv_iload_n hx hb dX6_greatest_32 rfl (lv_at hl 2 rfl) ?_
          refine lv_istore (lv' := [(7, .int x1), (6, .int 1), (0, .ref (zq Z 100)), (1, .int x1), (2, .int x2), (3, .int x3), (4, .int x4), (5, .int x5)]) hx hb dX6_greatest_33 hl (by decide) rfl (fun ls hl => ?_)
          obtain ⟨n, h⟩ := h
          exact B35 n (sI σ 100 2 x5) x1 x2 x3 x5 1 x1 _ _ _ h hP hS (lv_sub hl [2, 3, 4, 5, 7, 1, 0] rfl)
  unfold wp_X6_greatest at h
  refine lv_aload_n hx hb dX6_greatest_0 rfl (lv_at hl 0 rfl) ?_
  refine fg_6_2 hZ hx hb hts in6 hown hE hP kd100 lk13 dX6_greatest_1 ?_
  refine lv_istore_n (lv' := [(3, .int (gI σ 100 2)), (0, .ref (zq Z 100)), (1, .int x1), (2, .int x2)]) hx hb dX6_greatest_4 rfl hl (by decide) rfl (fun ls hl => ?_)
  refine lv_iconst (v := (-1)) hx hb dX6_greatest_5 (by decide) ?_
  refine lv_istore (lv' := [(4, .int (-1)), (3, .int (gI σ 100 2)), (0, .ref (zq Z 100)), (1, .int x1), (2, .int x2)]) hx hb dX6_greatest_6 hl (by decide) rfl (fun ls hl => ?_)
  refine lv_bipush (v := 50) hx hb dX6_greatest_8 (by decide) ?_
  refine lv_istore (lv' := [(5, .int 50), (4, .int (-1)), (3, .int (gI σ 100 2)), (0, .ref (zq Z 100)), (1, .int x1), (2, .int x2)]) hx hb dX6_greatest_10 hl (by decide) rfl (fun ls hl => ?_)
  obtain ⟨n, h⟩ := h
  exact B12 n σ x1 x2 (gI σ 100 2) (-1) 50 _ _ _ h hP hS (lv_sub hl [3, 4, 5, 2, 1, 0] rfl)
theorem hd_X6_longest : yX6_longest.cls = RX6 ∧ yX6_longest.cls ≠ "java/lang/invoke/MethodHandle" ∧ yX6_longest.cls ≠ "java/lang/invoke/VarHandle" ∧ (parseMethodDescriptor yX6_longest.desc).map (fun d => d.parameters.length) = some 1 := by decide +kernel
set_option maxHeartbeats 4000000 in
set_option maxRecDepth 100000 in
theorem mt_X6_longest (l : Launch) {Z : ZW} (hZ : isM Z) (σ : SS) (sz : Nat) (x1 : Int32) (K : SS → Int32 → Prop) (h : wp_X6_longest σ x1 K) : mtZ l yX6_longest wsX6_longest (rm9 8 192) Z [.ref (zq Z 100), .int x1] σ sz (qcI Z K sz) := by
  refine Met.ofW (cc := cX6_longest) (maxL := 2) (ret := (some .int)) (by decide) rfl ?_
  intro p e s m args below meth c s₁ B hml hv
  obtain ⟨hargs, hsz, hP, hE1, hE2, hE3⟩ := hv
  subst hsz
  have hE : envZ Z s := ⟨hE1, hE2, hE3⟩
  have hx := B.exec
  have hb := B.bytes
  have hr := B.returns
  have hlocks := B.notSynchronized
  have hts := atoms_spec (ws := wsX6_longest) B.pre
  have hown : s.vm.findClass RX6 = some m.cls := findClass_of_methodNamed B.named
  have hS : SZ Z s s.heap [] := va_S.rf
  obtain ⟨ls, hef, hl⟩ := z_entry m hargs (n := 2) (Nat.le_of_ble_eq_true rfl)
  rw [hef]
  have hl : lv_has ls 2 [(0, .ref (zq Z 100)), (1, .int x1)] := hl
  unfold wp_X6_longest at h
  refine lv_aload_n hx hb dX6_longest_0 rfl (lv_at hl 0 rfl) ?_
  refine lv_iload_n hx hb dX6_longest_1 rfl (lv_at hl 1 rfl) ?_
  refine zc_VI (As := [.int x1]) (rest := []) ⟨hx, hb, hml, hown, hts⟩ (cwV 1 hts gX6_longest_X6_isWatcher rfl rfl rfl hd_X6_isWatcher ⟨Nat.le_of_ble_eq_true rfl, Nat.le_of_ble_eq_true rfl⟩) (mt_X6_isWatcher l hZ σ _ x1 _ h) (rc_6 hZ hE hP kd100) hE hP hS rfl hl.1 rfl (Nat.le_of_ble_eq_true rfl) dX6_longest_2 ⟨Nat.zero_le _, Nat.zero_le _⟩ (fun r2 σ2 H locs h hP hS => ?_)
  refine lv_if_eq (tgt := 17) hx hb dX6_longest_5 (by decide) (fun hc => ?_) (fun hc => ?_)
  · have h := h.1 hc
    refine lv_bipush (v := (-2)) hx hb dX6_longest_17 (by decide) ?_
    exact zr_I hx hb hr hlocks hP hS h dX6_longest_19
  · have h := h.2 hc
    refine lv_aload_n hx hb dX6_longest_8 rfl (lv_at hl 0 rfl) ?_
    refine lv_iload_n hx hb dX6_longest_9 rfl (lv_at hl 1 rfl) ?_
    refine lv_iload_n hx hb dX6_longest_10 rfl (lv_at hl 1 rfl) ?_
    refine zc_VI (As := [.int x1, .int x1]) (rest := []) ⟨hx, hb, hml, hown, hts⟩ (cwV 2 hts gX6_longest_X6_greatest rfl rfl rfl hd_X6_greatest ⟨Nat.le_of_ble_eq_true rfl, Nat.le_of_ble_eq_true rfl⟩) (mt_X6_greatest l hZ σ2 _ x1 x1 _ h) (rc_6 hZ hE hP kd100) hE hP hS rfl hl.1 rfl (Nat.le_of_ble_eq_true rfl) dX6_longest_11 ⟨Nat.zero_le _, Nat.zero_le _⟩ (fun r11 σ11 H locs h hP hS => ?_)
    refine lv_goto (tgt := 19) hx hb dX6_longest_14 (by decide) ?_
    exact zr_I hx hb hr hlocks hP hS h dX6_longest_19
theorem hd_X6_sharedNow : yX6_sharedNow.cls = RX6 ∧ yX6_sharedNow.cls ≠ "java/lang/invoke/MethodHandle" ∧ yX6_sharedNow.cls ≠ "java/lang/invoke/VarHandle" ∧ (parseMethodDescriptor yX6_sharedNow.desc).map (fun d => d.parameters.length) = some 0 := by decide +kernel
set_option maxHeartbeats 4000000 in
set_option maxRecDepth 100000 in
theorem mt_X6_sharedNow (l : Launch) {Z : ZW} (hZ : isM Z) (σ : SS) (sz : Nat) (K : SS → Int32 → Prop) (h : wp_X6_sharedNow σ K) : mtZ l yX6_sharedNow wsX6_sharedNow (rm9 8 192) Z [.ref (zq Z 100)] σ sz (qcI Z K sz) := by
  refine Met.ofW (cc := cX6_sharedNow) (maxL := 1) (ret := (some .int)) (by decide) rfl ?_
  intro p e s m args below meth c s₁ B hml hv
  obtain ⟨hargs, hsz, hP, hE1, hE2, hE3⟩ := hv
  subst hsz
  have hE : envZ Z s := ⟨hE1, hE2, hE3⟩
  have hx := B.exec
  have hb := B.bytes
  have hr := B.returns
  have hlocks := B.notSynchronized
  have hts := atoms_spec (ws := wsX6_sharedNow) B.pre
  have hown : s.vm.findClass RX6 = some m.cls := findClass_of_methodNamed B.named
  have hS : SZ Z s s.heap [] := va_S.rf
  obtain ⟨ls, hef, hl⟩ := z_entry m hargs (n := 1) (Nat.le_of_ble_eq_true rfl)
  rw [hef]
  have hl : lv_has ls 1 [(0, .ref (zq Z 100))] := hl
  have in6 : ∀ w ∈ u_ws RX6 TX6 28, w ∈ wsX6_sharedNow := by decide +kernel
  have lk157 := hts (.fieldLink RX6 157 "BeatDoubtsModel" "watchers" "I") (by decide +kernel)
  unfold wp_X6_sharedNow at h
  refine lv_aload_n hx hb dX6_sharedNow_0 rfl (lv_at hl 0 rfl) ?_
  refine lv_iconst (v := 0) hx hb dX6_sharedNow_1 (by decide) ?_
  refine lv_aload_n hx hb dX6_sharedNow_2 rfl (lv_at hl 0 rfl) ?_
  refine fg_6_12 hZ hx hb hts in6 hown hE hP kd100 lk157 dX6_sharedNow_3 ?_
  refine lv_iconst (v := 1) hx hb dX6_sharedNow_6 (by decide) ?_
  refine lv_isub hx hb dX6_sharedNow_7 ?_
  refine zc_VI (As := [.int 0, .int ((gI σ 100 12) - 1)]) (rest := []) ⟨hx, hb, hml, hown, hts⟩ (cwV 2 hts gX6_sharedNow_X6_greatest rfl rfl rfl hd_X6_greatest ⟨Nat.le_of_ble_eq_true rfl, Nat.le_of_ble_eq_true rfl⟩) (mt_X6_greatest l hZ σ _ 0 ((gI σ 100 12) - 1) _ h) (rc_6 hZ hE hP kd100) hE hP hS rfl hl.1 rfl (Nat.le_of_ble_eq_true rfl) dX6_sharedNow_8 ⟨Nat.zero_le _, Nat.zero_le _⟩ (fun r8 σ8 H locs h hP hS => ?_)
  exact zr_I hx hb hr hlocks hP hS h dX6_sharedNow_11
theorem hd_X6_shared : yX6_shared.cls = RX6 ∧ yX6_shared.cls ≠ "java/lang/invoke/MethodHandle" ∧ yX6_shared.cls ≠ "java/lang/invoke/VarHandle" ∧ (parseMethodDescriptor yX6_shared.desc).map (fun d => d.parameters.length) = some 0 := by decide +kernel
set_option maxHeartbeats 4000000 in
set_option maxRecDepth 100000 in
theorem mt_X6_shared (l : Launch) {Z : ZW} (hZ : isM Z) (σ : SS) (sz : Nat) (K : SS → Int32 → Prop) (h : wp_X6_shared σ K) : mtZ l yX6_shared wsX6_shared (rm9 9 212) Z [.ref (zq Z 100)] σ sz (qcI Z K sz) := by
  refine Met.ofW (cc := cX6_shared) (maxL := 1) (ret := (some .int)) (by decide) rfl ?_
  intro p e s m args below meth c s₁ B hml hv
  obtain ⟨hargs, hsz, hP, hE1, hE2, hE3⟩ := hv
  subst hsz
  have hE : envZ Z s := ⟨hE1, hE2, hE3⟩
  have hx := B.exec
  have hb := B.bytes
  have hr := B.returns
  have hlocks := B.notSynchronized
  have hts := atoms_spec (ws := wsX6_shared) B.pre
  have hown : s.vm.findClass RX6 = some m.cls := findClass_of_methodNamed B.named
  have hS : SZ Z s s.heap [] := va_S.rf
  obtain ⟨ls, hef, hl⟩ := z_entry m hargs (n := 1) (Nat.le_of_ble_eq_true rfl)
  rw [hef]
  have hl : lv_has ls 1 [(0, .ref (zq Z 100))] := hl
  unfold wp_X6_shared at h
  refine lv_aload_n hx hb dX6_shared_0 rfl (lv_at hl 0 rfl) ?_
  refine zc_VI (As := []) (rest := []) ⟨hx, hb, hml, hown, hts⟩ (cwV 0 hts gX6_shared_X6_sharedNow rfl rfl rfl hd_X6_sharedNow ⟨Nat.le_of_ble_eq_true rfl, Nat.le_of_ble_eq_true rfl⟩) (mt_X6_sharedNow l hZ σ _  _ h) (rc_6 hZ hE hP kd100) hE hP hS rfl hl.1 rfl (Nat.le_of_ble_eq_true rfl) dX6_shared_1 ⟨Nat.zero_le _, Nat.zero_le _⟩ (fun r1 σ1 H locs h hP hS => ?_)
  exact zr_I hx hb hr hlocks hP hS h dX6_shared_4
theorem hd_X6_savedNow : yX6_savedNow.cls = RX6 ∧ yX6_savedNow.cls ≠ "java/lang/invoke/MethodHandle" ∧ yX6_savedNow.cls ≠ "java/lang/invoke/VarHandle" ∧ (parseMethodDescriptor yX6_savedNow.desc).map (fun d => d.parameters.length) = some 0 := by decide +kernel
set_option maxHeartbeats 4000000 in
set_option maxRecDepth 100000 in
theorem mt_X6_savedNow (l : Launch) {Z : ZW} (hZ : isM Z) (σ : SS) (sz : Nat) (K : SS → Int32 → Prop) (h : wp_X6_savedNow σ K) : mtZ l yX6_savedNow wsX6_savedNow (rm9 9 212) Z [.ref (zq Z 100)] σ sz (qcI Z K sz) := by
  refine Met.ofW (cc := cX6_savedNow) (maxL := 4) (ret := (some .int)) (by decide) rfl ?_
  intro p e s m args below meth c s₁ B hml hv
  obtain ⟨hargs, hsz, hP, hE1, hE2, hE3⟩ := hv
  subst hsz
  have hE : envZ Z s := ⟨hE1, hE2, hE3⟩
  have hx := B.exec
  have hb := B.bytes
  have hr := B.returns
  have hlocks := B.notSynchronized
  have hts := atoms_spec (ws := wsX6_savedNow) B.pre
  have hown : s.vm.findClass RX6 = some m.cls := findClass_of_methodNamed B.named
  have hS : SZ Z s s.heap [] := va_S.rf
  obtain ⟨ls, hef, hl⟩ := z_entry m hargs (n := 4) (Nat.le_of_ble_eq_true rfl)
  rw [hef]
  have hl : lv_has ls 4 [(0, .ref (zq Z 100))] := hl
  have in6 : ∀ w ∈ u_ws RX6 TX6 28, w ∈ wsX6_savedNow := by decide +kernel
  have lk157 := hts (.fieldLink RX6 157 "BeatDoubtsModel" "watchers" "I") (by decide +kernel)
  have lk227 := hts (.constant RX6 227 (-2147483648)) (by decide +kernel)
  have B31 : ∀ (n : Nat) (σ : SS) (x2 : Int32) (x3 : Int32) (H : Heap) (locs : List Loc) (ls : Array Slot), fx3 (lb_X6_savedNow_31 K) n σ x2 x3 → PZ Z σ H → SZ Z s H locs → lv_has ls 4 [(0, .ref (zq Z 100)), (2, .int x2), (3, .int x3)] → W p l e (headSpec wsX6_savedNow (rm9 9 212)).room s m args below meth c H locs 0 0 (MQ below (qcI Z K s.heap.size) args s 0 0 (aZ Z s.heap.size)) (F0 m 31 ls []) := by
    intro n31
    induction n31 with
    | zero => intro σ x2 x3 H locs ls h; exact h.elim
    | succ n31 ih31 =>
      intro σ x2 x3 H locs ls h hP hS hl
      have h : lb_X6_savedNow_31 K (fx3 (lb_X6_savedNow_31 K) n31) σ x2 x3 := h
      unfold lb_X6_savedNow_31 at h
      refine lv_iload_n hx hb dX6_savedNow_31 rfl (lv_at hl 2 rfl) ?_
      refine lv_aload_n hx hb dX6_savedNow_32 rfl (lv_at hl 0 rfl) ?_
      refine fg_6_12 hZ hx hb hts in6 hown hE hP kd100 lk157 dX6_savedNow_33 ?_
      refine lv_icmp_ge (tgt := 60) hx hb dX6_savedNow_36 (by decide) (fun hc => ?_) (fun hc => ?_)
      · have h := h.1 hc
        refine lv_iload_n hx hb dX6_savedNow_60 rfl (lv_at hl 1 rfl) ?_
        exact zr_I hx hb hr hlocks hP hS h dX6_savedNow_61
      · have h := h.2 hc
        refine lv_iload_n hx hb dX6_savedNow_39 rfl (lv_at hl 1 rfl) ?_
        refine lv_sipush (v := 1000) hx hb dX6_savedNow_40 (by decide) ?_
        refine lv_aload_n hx hb dX6_savedNow_43 rfl (lv_at hl 0 rfl) ?_
        refine lv_iload_n hx hb dX6_savedNow_44 rfl (lv_at hl 2 rfl) ?_
        refine lv_iload_n hx hb dX6_savedNow_45 rfl (lv_at hl 2 rfl) ?_
        refine zc_VI (As := [.int x3, .int x3]) (rest := [.int 1000, .int x2]) ⟨hx, hb, hml, hown, hts⟩ (cwV 2 hts gX6_savedNow_X6_greatest rfl rfl rfl hd_X6_greatest ⟨Nat.le_of_ble_eq_true rfl, Nat.le_of_ble_eq_true rfl⟩) (mt_X6_greatest l hZ σ _ x3 x3 _ h) (rc_6 hZ hE hP kd100) hE hP hS rfl hl.1 rfl (Nat.le_of_ble_eq_true rfl) dX6_savedNow_46 ⟨Nat.zero_le _, Nat.zero_le _⟩ (fun r46 σ46 H locs h hP hS => ?_)
        obtain ⟨hne, h⟩ := h
        refine lv_idiv hx hb dX6_savedNow_49 hne ?_
        refine lv_iconst (v := 1) hx hb dX6_savedNow_50 (by decide) ?_
        refine lv_iadd hx hb dX6_savedNow_51 ?_
        refine lv_iadd hx hb dX6_savedNow_52 ?_
        refine lv_istore_n (lv' := [(2, .int (x2 + ((1000 / r46) + 1))), (0, .ref (zq Z 100)), (3, .int x3)]) hx hb dX6_savedNow_53 rfl hl (by decide) rfl (fun ls hl => ?_)
        refine lv_iinc (v := (x3 + 1)) (lv' := [(3, .int (x3 + 1)), (2, .int (x2 + ((1000 / r46) + 1))), (0, .ref (zq Z 100))]) hx hb dX6_savedNow_54 hl (k := 2) rfl rfl (by decide) rfl (fun ls hl => ?_)
        refine lv_goto (tgt := 31) hx hb dX6_savedNow_57 (by decide) ?_
        exact ih31 σ46 (x2 + ((1000 / r46) + 1)) (x3 + 1) _ _ _ h hP hS (lv_sub hl [2, 1, 0] rfl)
  unfold wp_X6_savedNow at h
  refine lv_aload_n hx hb dX6_savedNow_0 rfl (lv_at hl 0 rfl) ?_
  refine zc_VI (As := []) (rest := []) ⟨hx, hb, hml, hown, hts⟩ (cwV 0 hts gX6_savedNow_X6_sharedNow rfl rfl rfl hd_X6_sharedNow ⟨Nat.le_of_ble_eq_true rfl, Nat.le_of_ble_eq_true rfl⟩) (mt_X6_sharedNow l hZ σ _  _ h) (rc_6 hZ hE hP kd100) hE hP hS rfl hl.1 rfl (Nat.le_of_ble_eq_true rfl) dX6_savedNow_1 ⟨Nat.zero_le _, Nat.zero_le _⟩ (fun r1 σ1 H locs h hP hS => ?_)
  refine lv_istore_n (lv' := [(1, .int r1), (0, .ref (zq Z 100))]) hx hb dX6_savedNow_4 rfl hl (by decide) rfl (fun ls hl => ?_)
  refine lv_iload_n hx hb dX6_savedNow_5 rfl (lv_at hl 0 rfl) ?_
  refine lv_iconst (v := (-1)) hx hb dX6_savedNow_6 (by decide) ?_
  refine lv_icmp_eq (tgt := 17) hx hb dX6_savedNow_7 (by decide) (fun hc => ?_) (fun hc => ?_)
  · have h := h.1 hc
    refine lv_ldc (v := (-2147483648)) hx hb hown lk227 dX6_savedNow_17 ?_
    exact zr_I hx hb hr hlocks hP hS h dX6_savedNow_19
  · have h := h.2 hc
    refine lv_aload_n hx hb dX6_savedNow_10 rfl (lv_at hl 1 rfl) ?_
    refine fg_6_12 hZ hx hb hts in6 hown hE hP kd100 lk157 dX6_savedNow_11 ?_
    refine lv_if_ne (tgt := 20) hx hb dX6_savedNow_14 (by decide) (fun hc => ?_) (fun hc => ?_)
    · have h := h.1 hc
      refine lv_sipush (v := 1000) hx hb dX6_savedNow_20 (by decide) ?_
      refine lv_iload_n hx hb dX6_savedNow_23 rfl (lv_at hl 0 rfl) ?_
      obtain ⟨hne, h⟩ := h
      refine lv_idiv hx hb dX6_savedNow_24 hne ?_
      refine lv_iconst (v := 1) hx hb dX6_savedNow_25 (by decide) ?_
      refine lv_iadd hx hb dX6_savedNow_26 ?_
      refine lv_ineg hx hb dX6_savedNow_27 ?_
      refine lv_istore_n (lv' := [(2, .int (-((1000 / r1) + 1))), (1, .int r1), (0, .ref (zq Z 100))]) hx hb dX6_savedNow_28 rfl hl (by decide) rfl (fun ls hl => ?_)
      refine lv_iconst (v := 0) hx hb dX6_savedNow_29 (by decide) ?_
      refine lv_istore_n (lv' := [(3, .int 0), (2, .int (-((1000 / r1) + 1))), (1, .int r1), (0, .ref (zq Z 100))]) hx hb dX6_savedNow_30 rfl hl (by decide) rfl (fun ls hl => ?_)
      obtain ⟨n, h⟩ := h
      exact B31 n σ1 (-((1000 / r1) + 1)) 0 _ _ _ h hP hS (lv_sub hl [3, 1, 0] rfl)
    · have h := h.2 hc
      refine lv_ldc (v := (-2147483648)) hx hb hown lk227 dX6_savedNow_17 ?_
      exact zr_I hx hb hr hlocks hP hS h dX6_savedNow_19
theorem hd_X6_saved : yX6_saved.cls = RX6 ∧ yX6_saved.cls ≠ "java/lang/invoke/MethodHandle" ∧ yX6_saved.cls ≠ "java/lang/invoke/VarHandle" ∧ (parseMethodDescriptor yX6_saved.desc).map (fun d => d.parameters.length) = some 0 := by decide +kernel
set_option maxHeartbeats 4000000 in
set_option maxRecDepth 100000 in
theorem mt_X6_saved (l : Launch) {Z : ZW} (hZ : isM Z) (σ : SS) (sz : Nat) (K : SS → Int32 → Prop) (h : wp_X6_saved σ K) : mtZ l yX6_saved wsX6_saved (rm9 10 235) Z [.ref (zq Z 100)] σ sz (qcI Z K sz) := by
  refine Met.ofW (cc := cX6_saved) (maxL := 1) (ret := (some .int)) (by decide) rfl ?_
  intro p e s m args below meth c s₁ B hml hv
  obtain ⟨hargs, hsz, hP, hE1, hE2, hE3⟩ := hv
  subst hsz
  have hE : envZ Z s := ⟨hE1, hE2, hE3⟩
  have hx := B.exec
  have hb := B.bytes
  have hr := B.returns
  have hlocks := B.notSynchronized
  have hts := atoms_spec (ws := wsX6_saved) B.pre
  have hown : s.vm.findClass RX6 = some m.cls := findClass_of_methodNamed B.named
  have hS : SZ Z s s.heap [] := va_S.rf
  obtain ⟨ls, hef, hl⟩ := z_entry m hargs (n := 1) (Nat.le_of_ble_eq_true rfl)
  rw [hef]
  have hl : lv_has ls 1 [(0, .ref (zq Z 100))] := hl
  unfold wp_X6_saved at h
  refine lv_aload_n hx hb dX6_saved_0 rfl (lv_at hl 0 rfl) ?_
  refine zc_VI (As := []) (rest := []) ⟨hx, hb, hml, hown, hts⟩ (cwV 0 hts gX6_saved_X6_savedNow rfl rfl rfl hd_X6_savedNow ⟨Nat.le_of_ble_eq_true rfl, Nat.le_of_ble_eq_true rfl⟩) (mt_X6_savedNow l hZ σ _  _ h) (rc_6 hZ hE hP kd100) hE hP hS rfl hl.1 rfl (Nat.le_of_ble_eq_true rfl) dX6_saved_1 ⟨Nat.zero_le _, Nat.zero_le _⟩ (fun r1 σ1 H locs h hP hS => ?_)
  exact zr_I hx hb hr hlocks hP hS h dX6_saved_4
theorem hd_X6_sheet : yX6_sheet.cls = RX6 ∧ yX6_sheet.cls ≠ "java/lang/invoke/MethodHandle" ∧ yX6_sheet.cls ≠ "java/lang/invoke/VarHandle" ∧ (parseMethodDescriptor yX6_sheet.desc).map (fun d => d.parameters.length) = some 3 := by decide +kernel
set_option maxHeartbeats 4000000 in
set_option maxRecDepth 100000 in
theorem mt_X6_sheet (l : Launch) {Z : ZW} (hZ : isM Z) (σ : SS) (sz : Nat) (x1 : Int32) (x2 : Int32) (x3 : Int32) (K : SS → Int32 → Prop) (h : wp_X6_sheet σ x1 x2 x3 K) : mtZ l yX6_sheet wsX6_sheet (rm9 2 42) Z [.ref (zq Z 100), .int x1, .int x2, .int x3] σ sz (qcI Z K sz) := by
  refine Met.ofW (cc := cX6_sheet) (maxL := 5) (ret := (some .int)) (by decide) rfl ?_
  intro p e s m args below meth c s₁ B hml hv
  obtain ⟨hargs, hsz, hP, hE1, hE2, hE3⟩ := hv
  subst hsz
  have hE : envZ Z s := ⟨hE1, hE2, hE3⟩
  have hx := B.exec
  have hb := B.bytes
  have hr := B.returns
  have hlocks := B.notSynchronized
  have hts := atoms_spec (ws := wsX6_sheet) B.pre
  have hown : s.vm.findClass RX6 = some m.cls := findClass_of_methodNamed B.named
  have hS : SZ Z s s.heap [] := va_S.rf
  obtain ⟨ls, hef, hl⟩ := z_entry m hargs (n := 5) (Nat.le_of_ble_eq_true rfl)
  rw [hef]
  have hl : lv_has ls 5 [(0, .ref (zq Z 100)), (1, .int x1), (2, .int x2), (3, .int x3)] := hl
  have in6 : ∀ w ∈ u_ws RX6 TX6 28, w ∈ wsX6_sheet := by decide +kernel
  have lk48 := hts (.fieldLink RX6 48 "BeatDoubtsModel" "forms" "[I") (by decide +kernel)
  have lk51 := hts (.fieldLink RX6 51 "BeatDoubtsModel" "sizes" "[I") (by decide +kernel)
  have lk54 := hts (.fieldLink RX6 54 "BeatDoubtsModel" "wholes" "[J") (by decide +kernel)
  have lk58 := hts (.fieldLink RX6 58 "BeatDoubtsModel" "numbers" "[D") (by decide +kernel)
  have lk62 := hts (.fieldLink RX6 62 "BeatDoubtsModel" "blanks" "[Z") (by decide +kernel)
  have B55 : ∀ (n : Nat) (σ : SS) (x1 : Int32) (x3 : Int32) (x4 : Int32) (H : Heap) (locs : List Loc) (ls : Array Slot), fx4 (lb_X6_sheet_55 K) n σ x1 x3 x4 → PZ Z σ H → SZ Z s H locs → lv_has ls 5 [(0, .ref (zq Z 100)), (1, .int x1), (3, .int x3), (4, .int x4)] → W p l e (headSpec wsX6_sheet (rm9 2 42)).room s m args below meth c H locs 0 0 (MQ below (qcI Z K s.heap.size) args s 0 0 (aZ Z s.heap.size)) (F0 m 55 ls []) := by
    intro n55
    induction n55 with
    | zero => intro σ x1 x3 x4 H locs ls h; exact h.elim
    | succ n55 ih55 =>
      intro σ x1 x3 x4 H locs ls h hP hS hl
      have h : lb_X6_sheet_55 K (fx4 (lb_X6_sheet_55 K) n55) σ x1 x3 x4 := h
      unfold lb_X6_sheet_55 at h
      refine lv_iload hx hb dX6_sheet_55 (lv_at hl 3 rfl) ?_
      refine lv_bipush (v := 40) hx hb dX6_sheet_57 (by decide) ?_
      refine lv_iload_n hx hb dX6_sheet_59 rfl (lv_at hl 1 rfl) ?_
      refine lv_imul hx hb dX6_sheet_60 ?_
      refine lv_bipush (v := 40) hx hb dX6_sheet_61 (by decide) ?_
      refine lv_iadd hx hb dX6_sheet_63 ?_
      refine lv_icmp_ge (tgt := 97) hx hb dX6_sheet_64 (by decide) (fun hc => ?_) (fun hc => ?_)
      · have h := h.1 hc
        refine lv_iload_n hx hb dX6_sheet_97 rfl (lv_at hl 2 rfl) ?_
        exact zr_I hx hb hr hlocks hP hS h dX6_sheet_98
      · have h := h.2 hc
        refine lv_aload_n hx hb dX6_sheet_67 rfl (lv_at hl 0 rfl) ?_
        refine fg_6_21 hZ hx hb hts in6 hown hE hP kd100 lk54 dX6_sheet_68 ?_
        refine lv_iload hx hb dX6_sheet_71 (lv_at hl 3 rfl) ?_
        refine lv_lconst (v := 0) hx hb dX6_sheet_73 (by decide) ?_
        obtain ⟨hin, h⟩ := h
        refine as_25 hZ hx hb hE hP hS kr_6_21 hin dX6_sheet_74 (fun H locs hP hS => ?_)
        refine lv_aload_n hx hb dX6_sheet_75 rfl (lv_at hl 0 rfl) ?_
        refine fg_6_22 hZ hx hb hts in6 hown hE hP kd100 lk58 dX6_sheet_76 ?_
        refine lv_iload hx hb dX6_sheet_79 (lv_at hl 3 rfl) ?_
        refine lv_dconst0 hx hb dX6_sheet_81 ?_
        obtain ⟨hin, h⟩ := h
        refine as_27 hZ hx hb hE hP hS kr_6_22 hin dX6_sheet_82 (fun H locs hP hS => ?_)
        refine lv_aload_n hx hb dX6_sheet_83 rfl (lv_at hl 0 rfl) ?_
        refine fg_6_23 hZ hx hb hts in6 hown hE hP kd100 lk62 dX6_sheet_84 ?_
        refine lv_iload hx hb dX6_sheet_87 (lv_at hl 3 rfl) ?_
        refine lv_iconst (v := 0) hx hb dX6_sheet_89 (by decide) ?_
        obtain ⟨hin, h⟩ := h
        refine as_24 hZ hx hb hE hP hS kr_6_23 hin dX6_sheet_90 (fun H locs hP hS => ?_)
        refine lv_iinc (v := (x4 + 1)) (lv' := [(4, .int (x4 + 1)), (0, .ref (zq Z 100)), (1, .int x1), (3, .int x3)]) hx hb dX6_sheet_91 hl (k := 3) rfl rfl (by decide) rfl (fun ls hl => ?_)
        refine lv_goto (tgt := 55) hx hb dX6_sheet_94 (by decide) ?_
        exact ih55 (sA (sD (sL σ 112 x4.toNatClampNeg 0) 113 x4.toNatClampNeg FP.dconst0) 114 x4.toNatClampNeg (vp_nar .boolean 0)) x1 x3 (x4 + 1) _ _ _ h hP hS (lv_sub hl [1, 2, 3, 0] rfl)
  unfold wp_X6_sheet at h
  refine lv_iload_n hx hb dX6_sheet_0 rfl (lv_at hl 1 rfl) ?_
  refine zc_SI (As := [.int x1]) (rest := []) ⟨hx, hb, hml, hown, hts⟩ (va_cwS 1 hts gX6_sheet_X6_isSheet rfl rfl rfl hd_X6_isSheet ⟨Nat.le_of_ble_eq_true rfl, Nat.le_of_ble_eq_true rfl⟩) (mt_X6_isSheet l hZ σ _ x1 _ h) hE hP hS rfl hl.1 rfl (Nat.le_of_ble_eq_true rfl) dX6_sheet_1 ⟨Nat.zero_le _, Nat.zero_le _⟩ (fun r1 σ1 H locs h hP hS => ?_)
  refine lv_if_eq (tgt := 22) hx hb dX6_sheet_4 (by decide) (fun hc => ?_) (fun hc => ?_)
  · have h := h.1 hc
    refine lv_bipush (v := (-2)) hx hb dX6_sheet_22 (by decide) ?_
    exact zr_I hx hb hr hlocks hP hS h dX6_sheet_24
  · have h := h.2 hc
    refine lv_iload_n hx hb dX6_sheet_7 rfl (lv_at hl 2 rfl) ?_
    refine lv_iconst (v := 0) hx hb dX6_sheet_8 (by decide) ?_
    refine lv_iconst (v := 1) hx hb dX6_sheet_9 (by decide) ?_
    refine zc_SI (As := [.int x2, .int 0, .int 1]) (rest := []) ⟨hx, hb, hml, hown, hts⟩ (va_cwS 3 hts gX6_sheet_X6_in rfl rfl rfl hd_X6_in ⟨Nat.le_of_ble_eq_true rfl, Nat.le_of_ble_eq_true rfl⟩) (mt_X6_in l hZ σ1 _ x2 0 1 _ h) hE hP hS rfl hl.1 rfl (Nat.le_of_ble_eq_true rfl) dX6_sheet_10 ⟨Nat.zero_le _, Nat.zero_le _⟩ (fun r10 σ10 H locs h hP hS => ?_)
    refine lv_if_eq (tgt := 22) hx hb dX6_sheet_13 (by decide) (fun hc => ?_) (fun hc => ?_)
    · have h := h.1 hc
      refine lv_bipush (v := (-2)) hx hb dX6_sheet_22 (by decide) ?_
      exact zr_I hx hb hr hlocks hP hS h dX6_sheet_24
    · have h := h.2 hc
      refine lv_iload_n hx hb dX6_sheet_16 rfl (lv_at hl 3 rfl) ?_
      refine lv_bipush (v := 40) hx hb dX6_sheet_17 (by decide) ?_
      refine lv_icmp_le (tgt := 25) hx hb dX6_sheet_19 (by decide) (fun hc => ?_) (fun hc => ?_)
      · have h := h.1 hc
        refine lv_iload_n hx hb dX6_sheet_25 rfl (lv_at hl 3 rfl) ?_
        refine lv_if_ge (tgt := 35) hx hb dX6_sheet_26 (by decide) (fun hc => ?_) (fun hc => ?_)
        · have h := h.1 hc
          refine lv_aload_n hx hb dX6_sheet_35 rfl (lv_at hl 0 rfl) ?_
          refine fg_6_19 hZ hx hb hts in6 hown hE hP kd100 lk48 dX6_sheet_36 ?_
          refine lv_iload_n hx hb dX6_sheet_39 rfl (lv_at hl 1 rfl) ?_
          refine lv_iload_n hx hb dX6_sheet_40 rfl (lv_at hl 2 rfl) ?_
          obtain ⟨hin, h⟩ := h
          refine as_22 hZ hx hb hE hP hS kr_6_19 hin dX6_sheet_41 (fun H locs hP hS => ?_)
          refine lv_aload_n hx hb dX6_sheet_42 rfl (lv_at hl 0 rfl) ?_
          refine fg_6_20 hZ hx hb hts in6 hown hE hP kd100 lk51 dX6_sheet_43 ?_
          refine lv_iload_n hx hb dX6_sheet_46 rfl (lv_at hl 1 rfl) ?_
          refine lv_iload_n hx hb dX6_sheet_47 rfl (lv_at hl 3 rfl) ?_
          obtain ⟨hin, h⟩ := h
          refine as_22 hZ hx hb hE hP hS kr_6_20 hin dX6_sheet_48 (fun H locs hP hS => ?_)
          refine lv_bipush (v := 40) hx hb dX6_sheet_49 (by decide) ?_
          refine lv_iload_n hx hb dX6_sheet_51 rfl (lv_at hl 1 rfl) ?_
          refine lv_imul hx hb dX6_sheet_52 ?_
          refine lv_istore (lv' := [(4, .int (40 * x1)), (0, .ref (zq Z 100)), (1, .int x1), (2, .int x2), (3, .int x3)]) hx hb dX6_sheet_53 hl (by decide) rfl (fun ls hl => ?_)
          obtain ⟨n, h⟩ := h
          exact B55 n (sA (sA σ10 110 x1.toNatClampNeg x2) 111 x1.toNatClampNeg x3) x1 x3 (40 * x1) _ _ _ h hP hS (lv_sub hl [1, 2, 4, 0] rfl)
        · have h := h.2 hc
          refine lv_aload_n hx hb dX6_sheet_29 rfl (lv_at hl 0 rfl) ?_
          refine lv_iconst (v := 5) hx hb dX6_sheet_30 (by decide) ?_
          refine zc_VI (As := [.int 5]) (rest := []) ⟨hx, hb, hml, hown, hts⟩ (cwV 1 hts gX6_sheet_X6_meets rfl rfl rfl hd_X6_meets ⟨Nat.le_of_ble_eq_true rfl, Nat.le_of_ble_eq_true rfl⟩) (mt_X6_meets l hZ σ10 _ 5 _ h) (rc_6 hZ hE hP kd100) hE hP hS rfl hl.1 rfl (Nat.le_of_ble_eq_true rfl) dX6_sheet_31 ⟨Nat.zero_le _, Nat.zero_le _⟩ (fun r31 σ31 H locs h hP hS => ?_)
          exact zr_I hx hb hr hlocks hP hS h dX6_sheet_34
      · have h := h.2 hc
        refine lv_bipush (v := (-2)) hx hb dX6_sheet_22 (by decide) ?_
        exact zr_I hx hb hr hlocks hP hS h dX6_sheet_24
theorem hd_X6_lose : yX6_lose.cls = RX6 ∧ yX6_lose.cls ≠ "java/lang/invoke/MethodHandle" ∧ yX6_lose.cls ≠ "java/lang/invoke/VarHandle" ∧ (parseMethodDescriptor yX6_lose.desc).map (fun d => d.parameters.length) = some 1 := by decide +kernel
set_option maxHeartbeats 4000000 in
set_option maxRecDepth 100000 in
theorem mt_X6_lose (l : Launch) {Z : ZW} (hZ : isM Z) (σ : SS) (sz : Nat) (x1 : Int32) (K : SS → Int32 → Prop) (h : wp_X6_lose σ x1 K) : mtZ l yX6_lose wsX6_lose (rm9 2 42) Z [.ref (zq Z 100), .int x1] σ sz (qcI Z K sz) := by
  refine Met.ofW (cc := cX6_lose) (maxL := 2) (ret := (some .int)) (by decide) rfl ?_
  intro p e s m args below meth c s₁ B hml hv
  obtain ⟨hargs, hsz, hP, hE1, hE2, hE3⟩ := hv
  subst hsz
  have hE : envZ Z s := ⟨hE1, hE2, hE3⟩
  have hx := B.exec
  have hb := B.bytes
  have hr := B.returns
  have hlocks := B.notSynchronized
  have hts := atoms_spec (ws := wsX6_lose) B.pre
  have hown : s.vm.findClass RX6 = some m.cls := findClass_of_methodNamed B.named
  have hS : SZ Z s s.heap [] := va_S.rf
  obtain ⟨ls, hef, hl⟩ := z_entry m hargs (n := 2) (Nat.le_of_ble_eq_true rfl)
  rw [hef]
  have hl : lv_has ls 2 [(0, .ref (zq Z 100)), (1, .int x1)] := hl
  have in6 : ∀ w ∈ u_ws RX6 TX6 28, w ∈ wsX6_lose := by decide +kernel
  have lk48 := hts (.fieldLink RX6 48 "BeatDoubtsModel" "forms" "[I") (by decide +kernel)
  have lk51 := hts (.fieldLink RX6 51 "BeatDoubtsModel" "sizes" "[I") (by decide +kernel)
  unfold wp_X6_lose at h
  refine lv_iload_n hx hb dX6_lose_0 rfl (lv_at hl 1 rfl) ?_
  refine zc_SI (As := [.int x1]) (rest := []) ⟨hx, hb, hml, hown, hts⟩ (va_cwS 1 hts gX6_lose_X6_isSheet rfl rfl rfl hd_X6_isSheet ⟨Nat.le_of_ble_eq_true rfl, Nat.le_of_ble_eq_true rfl⟩) (mt_X6_isSheet l hZ σ _ x1 _ h) hE hP hS rfl hl.1 rfl (Nat.le_of_ble_eq_true rfl) dX6_lose_1 ⟨Nat.zero_le _, Nat.zero_le _⟩ (fun r1 σ1 H locs h hP hS => ?_)
  refine lv_if_ne (tgt := 10) hx hb dX6_lose_4 (by decide) (fun hc => ?_) (fun hc => ?_)
  · have h := h.1 hc
    refine lv_aload_n hx hb dX6_lose_10 rfl (lv_at hl 0 rfl) ?_
    refine fg_6_19 hZ hx hb hts in6 hown hE hP kd100 lk48 dX6_lose_11 ?_
    refine lv_iload_n hx hb dX6_lose_14 rfl (lv_at hl 1 rfl) ?_
    obtain ⟨hin, h⟩ := h
    refine al_22 hZ hx hb hE hP kr_6_19 hin dX6_lose_15 ?_
    refine lv_iconst (v := (-1)) hx hb dX6_lose_16 (by decide) ?_
    refine lv_icmp_ne (tgt := 26) hx hb dX6_lose_17 (by decide) (fun hc => ?_) (fun hc => ?_)
    · have h := h.1 hc
      refine lv_aload_n hx hb dX6_lose_26 rfl (lv_at hl 0 rfl) ?_
      refine fg_6_19 hZ hx hb hts in6 hown hE hP kd100 lk48 dX6_lose_27 ?_
      refine lv_iload_n hx hb dX6_lose_30 rfl (lv_at hl 1 rfl) ?_
      refine lv_iconst (v := (-1)) hx hb dX6_lose_31 (by decide) ?_
      obtain ⟨hin, h⟩ := h
      refine as_22 hZ hx hb hE hP hS kr_6_19 hin dX6_lose_32 (fun H locs hP hS => ?_)
      refine lv_aload_n hx hb dX6_lose_33 rfl (lv_at hl 0 rfl) ?_
      refine fg_6_20 hZ hx hb hts in6 hown hE hP kd100 lk51 dX6_lose_34 ?_
      refine lv_iload_n hx hb dX6_lose_37 rfl (lv_at hl 1 rfl) ?_
      obtain ⟨hin, h⟩ := h
      refine al_22 hZ hx hb hE hP kr_6_20 hin dX6_lose_38 ?_
      exact zr_I hx hb hr hlocks hP hS h dX6_lose_39
    · have h := h.2 hc
      refine lv_aload_n hx hb dX6_lose_20 rfl (lv_at hl 0 rfl) ?_
      refine lv_iconst (v := 1) hx hb dX6_lose_21 (by decide) ?_
      refine zc_VI (As := [.int 1]) (rest := []) ⟨hx, hb, hml, hown, hts⟩ (cwV 1 hts gX6_lose_X6_meets rfl rfl rfl hd_X6_meets ⟨Nat.le_of_ble_eq_true rfl, Nat.le_of_ble_eq_true rfl⟩) (mt_X6_meets l hZ σ1 _ 1 _ h) (rc_6 hZ hE hP kd100) hE hP hS rfl hl.1 rfl (Nat.le_of_ble_eq_true rfl) dX6_lose_22 ⟨Nat.zero_le _, Nat.zero_le _⟩ (fun r22 σ22 H locs h hP hS => ?_)
      exact zr_I hx hb hr hlocks hP hS h dX6_lose_25
  · have h := h.2 hc
    refine lv_bipush (v := (-2)) hx hb dX6_lose_7 (by decide) ?_
    exact zr_I hx hb hr hlocks hP hS h dX6_lose_9
theorem hd_X6_hasItem : yX6_hasItem.cls = RX6 ∧ yX6_hasItem.cls ≠ "java/lang/invoke/MethodHandle" ∧ yX6_hasItem.cls ≠ "java/lang/invoke/VarHandle" ∧ (parseMethodDescriptor yX6_hasItem.desc).map (fun d => d.parameters.length) = some 2 := by decide +kernel
set_option maxHeartbeats 4000000 in
set_option maxRecDepth 100000 in
theorem mt_X6_hasItem (l : Launch) {Z : ZW} (hZ : isM Z) (σ : SS) (sz : Nat) (x1 : Int32) (x2 : Int32) (K : SS → Int32 → Prop) (h : wp_X6_hasItem σ x1 x2 K) : mtZ l yX6_hasItem wsX6_hasItem (rm9 1 22) Z [.ref (zq Z 100), .int x1, .int x2] σ sz (qcI Z K sz) := by
  refine Met.ofW (cc := cX6_hasItem) (maxL := 3) (ret := (some .boolean)) (by decide) rfl ?_
  intro p e s m args below meth c s₁ B hml hv
  obtain ⟨hargs, hsz, hP, hE1, hE2, hE3⟩ := hv
  subst hsz
  have hE : envZ Z s := ⟨hE1, hE2, hE3⟩
  have hx := B.exec
  have hb := B.bytes
  have hr := B.returns
  have hlocks := B.notSynchronized
  have hts := atoms_spec (ws := wsX6_hasItem) B.pre
  have hown : s.vm.findClass RX6 = some m.cls := findClass_of_methodNamed B.named
  have hS : SZ Z s s.heap [] := va_S.rf
  obtain ⟨ls, hef, hl⟩ := z_entry m hargs (n := 3) (Nat.le_of_ble_eq_true rfl)
  rw [hef]
  have hl : lv_has ls 3 [(0, .ref (zq Z 100)), (1, .int x1), (2, .int x2)] := hl
  have in6 : ∀ w ∈ u_ws RX6 TX6 28, w ∈ wsX6_hasItem := by decide +kernel
  have lk51 := hts (.fieldLink RX6 51 "BeatDoubtsModel" "sizes" "[I") (by decide +kernel)
  unfold wp_X6_hasItem at h
  refine lv_iload_n hx hb dX6_hasItem_0 rfl (lv_at hl 2 rfl) ?_
  refine lv_iconst (v := 0) hx hb dX6_hasItem_1 (by decide) ?_
  refine lv_aload_n hx hb dX6_hasItem_2 rfl (lv_at hl 0 rfl) ?_
  refine fg_6_20 hZ hx hb hts in6 hown hE hP kd100 lk51 dX6_hasItem_3 ?_
  refine lv_iload_n hx hb dX6_hasItem_6 rfl (lv_at hl 1 rfl) ?_
  obtain ⟨hin, h⟩ := h
  refine al_22 hZ hx hb hE hP kr_6_20 hin dX6_hasItem_7 ?_
  refine lv_iconst (v := 1) hx hb dX6_hasItem_8 (by decide) ?_
  refine lv_isub hx hb dX6_hasItem_9 ?_
  refine zc_SI (As := [.int x2, .int 0, .int ((gA σ 111 x1.toNatClampNeg) - 1)]) (rest := []) ⟨hx, hb, hml, hown, hts⟩ (va_cwS 3 hts gX6_hasItem_X6_in rfl rfl rfl hd_X6_in ⟨Nat.le_of_ble_eq_true rfl, Nat.le_of_ble_eq_true rfl⟩) (mt_X6_in l hZ σ _ x2 0 ((gA σ 111 x1.toNatClampNeg) - 1) _ h) hE hP hS rfl hl.1 rfl (Nat.le_of_ble_eq_true rfl) dX6_hasItem_10 ⟨Nat.zero_le _, Nat.zero_le _⟩ (fun r10 σ10 H locs h hP hS => ?_)
  exact zr_Z hx hb hr hlocks hP hS h.1 h.2 dX6_hasItem_13
theorem hd_X6_put : yX6_put.cls = RX6 ∧ yX6_put.cls ≠ "java/lang/invoke/MethodHandle" ∧ yX6_put.cls ≠ "java/lang/invoke/VarHandle" ∧ (parseMethodDescriptor yX6_put.desc).map (fun d => d.parameters.length) = some 4 := by decide +kernel
set_option maxHeartbeats 4000000 in
set_option maxRecDepth 100000 in
theorem mt_X6_put (l : Launch) {Z : ZW} (hZ : isM Z) (σ : SS) (sz : Nat) (x1 : Int32) (x2 : Int32) (x3 : Int32) (x4 : Int32) (K : SS → Int32 → Prop) (h : wp_X6_put σ x1 x2 x3 x4 K) : mtZ l yX6_put wsX6_put (rm9 2 44) Z [.ref (zq Z 100), .int x1, .int x2, .int x3, .int x4] σ sz (qcI Z K sz) := by
  refine Met.ofW (cc := cX6_put) (maxL := 6) (ret := (some .int)) (by decide) rfl ?_
  intro p e s m args below meth c s₁ B hml hv
  obtain ⟨hargs, hsz, hP, hE1, hE2, hE3⟩ := hv
  subst hsz
  have hE : envZ Z s := ⟨hE1, hE2, hE3⟩
  have hx := B.exec
  have hb := B.bytes
  have hr := B.returns
  have hlocks := B.notSynchronized
  have hts := atoms_spec (ws := wsX6_put) B.pre
  have hown : s.vm.findClass RX6 = some m.cls := findClass_of_methodNamed B.named
  have hS : SZ Z s s.heap [] := va_S.rf
  obtain ⟨ls, hef, hl⟩ := z_entry m hargs (n := 6) (Nat.le_of_ble_eq_true rfl)
  rw [hef]
  have hl : lv_has ls 6 [(0, .ref (zq Z 100)), (1, .int x1), (2, .int x2), (3, .int x3), (4, .int x4)] := hl
  have in6 : ∀ w ∈ u_ws RX6 TX6 28, w ∈ wsX6_put := by decide +kernel
  have lk237 := hts (.constantDouble RX6 237 (4620693217682128896)) (by decide +kernel)
  have lk48 := hts (.fieldLink RX6 48 "BeatDoubtsModel" "forms" "[I") (by decide +kernel)
  have lk54 := hts (.fieldLink RX6 54 "BeatDoubtsModel" "wholes" "[J") (by decide +kernel)
  have lk58 := hts (.fieldLink RX6 58 "BeatDoubtsModel" "numbers" "[D") (by decide +kernel)
  have lk62 := hts (.fieldLink RX6 62 "BeatDoubtsModel" "blanks" "[Z") (by decide +kernel)
  have B61 : ∀ (σ : SS) (x1 : Int32) (x3 : Int32) (x4 : Int32) (k0 : Int32) (H : Heap) (locs : List Loc) (ls : Array Slot), bl_X6_put_61 K σ x1 x3 x4 k0 → PZ Z σ H → SZ Z s H locs → lv_has ls 6 [(0, .ref (zq Z 100)), (1, .int x1), (3, .int x3), (4, .int x4)] → W p l e (headSpec wsX6_put (rm9 2 44)).room s m args below meth c H locs 0 0 (MQ below (qcI Z K s.heap.size) args s 0 0 (aZ Z s.heap.size)) (F0 m 61 ls [.int k0]) := by
    intro σ x1 x3 x4 k0 H locs ls h hP hS hl
    unfold bl_X6_put_61 at h
    refine lv_istore (lv' := [(5, .int k0), (0, .ref (zq Z 100)), (1, .int x1), (3, .int x3), (4, .int x4)]) hx hb dX6_put_61 hl (by decide) rfl (fun ls hl => ?_)
    refine lv_iload hx hb dX6_put_63 (lv_at hl 0 rfl) ?_
    refine lv_if_le (tgt := 75) hx hb dX6_put_65 (by decide) (fun hc => ?_) (fun hc => ?_)
    · have h := h.1 hc
      refine lv_aload_n hx hb dX6_put_75 rfl (lv_at hl 1 rfl) ?_
      refine fg_6_21 hZ hx hb hts in6 hown hE hP kd100 lk54 dX6_put_76 ?_
      refine lv_bipush (v := 40) hx hb dX6_put_79 (by decide) ?_
      refine lv_iload_n hx hb dX6_put_81 rfl (lv_at hl 2 rfl) ?_
      refine lv_imul hx hb dX6_put_82 ?_
      refine lv_iload_n hx hb dX6_put_83 rfl (lv_at hl 3 rfl) ?_
      refine lv_iadd hx hb dX6_put_84 ?_
      refine lv_iload hx hb dX6_put_85 (lv_at hl 4 rfl) ?_
      refine lv_i2l hx hb dX6_put_87 rfl ?_
      obtain ⟨hin, h⟩ := h
      refine as_25 hZ hx hb hE hP hS kr_6_21 hin dX6_put_88 (fun H locs hP hS => ?_)
      refine lv_aload_n hx hb dX6_put_89 rfl (lv_at hl 1 rfl) ?_
      refine fg_6_22 hZ hx hb hts in6 hown hE hP kd100 lk58 dX6_put_90 ?_
      refine lv_bipush (v := 40) hx hb dX6_put_93 (by decide) ?_
      refine lv_iload_n hx hb dX6_put_95 rfl (lv_at hl 2 rfl) ?_
      refine lv_imul hx hb dX6_put_96 ?_
      refine lv_iload_n hx hb dX6_put_97 rfl (lv_at hl 3 rfl) ?_
      refine lv_iadd hx hb dX6_put_98 ?_
      refine lv_iload hx hb dX6_put_99 (lv_at hl 4 rfl) ?_
      refine lv_i2d hx hb dX6_put_101 ?_
      refine lv_ldc2d (v := 4620693217682128896) hx hb hown lk237 dX6_put_102 ?_
      obtain ⟨hne, h⟩ := h
      refine lv_ddiv hx hb dX6_put_105 hne ?_
      obtain ⟨hin, h⟩ := h
      refine as_27 hZ hx hb hE hP hS kr_6_22 hin dX6_put_106 (fun H locs hP hS => ?_)
      refine lv_aload_n hx hb dX6_put_107 rfl (lv_at hl 1 rfl) ?_
      refine fg_6_23 hZ hx hb hts in6 hown hE hP kd100 lk62 dX6_put_108 ?_
      refine lv_bipush (v := 40) hx hb dX6_put_111 (by decide) ?_
      refine lv_iload_n hx hb dX6_put_113 rfl (lv_at hl 2 rfl) ?_
      refine lv_imul hx hb dX6_put_114 ?_
      refine lv_iload_n hx hb dX6_put_115 rfl (lv_at hl 3 rfl) ?_
      refine lv_iadd hx hb dX6_put_116 ?_
      refine lv_iconst (v := 0) hx hb dX6_put_117 (by decide) ?_
      obtain ⟨hin, h⟩ := h
      refine as_24 hZ hx hb hE hP hS kr_6_23 hin dX6_put_118 (fun H locs hP hS => ?_)
      refine lv_iconst (v := 1) hx hb dX6_put_119 (by decide) ?_
      exact zr_I hx hb hr hlocks hP hS h dX6_put_120
    · have h := h.2 hc
      refine lv_aload_n hx hb dX6_put_68 rfl (lv_at hl 1 rfl) ?_
      refine lv_iload hx hb dX6_put_69 (lv_at hl 0 rfl) ?_
      refine zc_VI (As := [.int k0]) (rest := []) ⟨hx, hb, hml, hown, hts⟩ (cwV 1 hts gX6_put_X6_meets rfl rfl rfl hd_X6_meets ⟨Nat.le_of_ble_eq_true rfl, Nat.le_of_ble_eq_true rfl⟩) (mt_X6_meets l hZ σ _ k0 _ h) (rc_6 hZ hE hP kd100) hE hP hS rfl hl.1 rfl (Nat.le_of_ble_eq_true rfl) dX6_put_71 ⟨Nat.zero_le _, Nat.zero_le _⟩ (fun r71 σ71 H locs h hP hS => ?_)
      exact zr_I hx hb hr hlocks hP hS h dX6_put_74
  unfold wp_X6_put at h
  refine lv_iload_n hx hb dX6_put_0 rfl (lv_at hl 1 rfl) ?_
  refine zc_SI (As := [.int x1]) (rest := []) ⟨hx, hb, hml, hown, hts⟩ (va_cwS 1 hts gX6_put_X6_isSheet rfl rfl rfl hd_X6_isSheet ⟨Nat.le_of_ble_eq_true rfl, Nat.le_of_ble_eq_true rfl⟩) (mt_X6_isSheet l hZ σ _ x1 _ h) hE hP hS rfl hl.1 rfl (Nat.le_of_ble_eq_true rfl) dX6_put_1 ⟨Nat.zero_le _, Nat.zero_le _⟩ (fun r1 σ1 H locs h hP hS => ?_)
  refine lv_if_eq (tgt := 16) hx hb dX6_put_4 (by decide) (fun hc => ?_) (fun hc => ?_)
  · have h := h.1 hc
    refine lv_bipush (v := (-2)) hx hb dX6_put_16 (by decide) ?_
    exact zr_I hx hb hr hlocks hP hS h dX6_put_18
  · have h := h.2 hc
    refine lv_iload_n hx hb dX6_put_7 rfl (lv_at hl 2 rfl) ?_
    refine lv_iconst (v := 0) hx hb dX6_put_8 (by decide) ?_
    refine lv_iconst (v := 1) hx hb dX6_put_9 (by decide) ?_
    refine zc_SI (As := [.int x2, .int 0, .int 1]) (rest := []) ⟨hx, hb, hml, hown, hts⟩ (va_cwS 3 hts gX6_put_X6_in rfl rfl rfl hd_X6_in ⟨Nat.le_of_ble_eq_true rfl, Nat.le_of_ble_eq_true rfl⟩) (mt_X6_in l hZ σ1 _ x2 0 1 _ h) hE hP hS rfl hl.1 rfl (Nat.le_of_ble_eq_true rfl) dX6_put_10 ⟨Nat.zero_le _, Nat.zero_le _⟩ (fun r10 σ10 H locs h hP hS => ?_)
    refine lv_if_ne (tgt := 19) hx hb dX6_put_13 (by decide) (fun hc => ?_) (fun hc => ?_)
    · have h := h.1 hc
      refine lv_aload_n hx hb dX6_put_19 rfl (lv_at hl 0 rfl) ?_
      refine fg_6_19 hZ hx hb hts in6 hown hE hP kd100 lk48 dX6_put_20 ?_
      refine lv_iload_n hx hb dX6_put_23 rfl (lv_at hl 1 rfl) ?_
      obtain ⟨hin, h⟩ := h
      refine al_22 hZ hx hb hE hP kr_6_19 hin dX6_put_24 ?_
      refine lv_iconst (v := (-1)) hx hb dX6_put_25 (by decide) ?_
      refine lv_icmp_ne (tgt := 33) hx hb dX6_put_26 (by decide) (fun hc => ?_) (fun hc => ?_)
      · have h := h.1 hc
        refine lv_aload_n hx hb dX6_put_33 rfl (lv_at hl 0 rfl) ?_
        refine fg_6_19 hZ hx hb hts in6 hown hE hP kd100 lk48 dX6_put_34 ?_
        refine lv_iload_n hx hb dX6_put_37 rfl (lv_at hl 1 rfl) ?_
        obtain ⟨hin, h⟩ := h
        refine al_22 hZ hx hb hE hP kr_6_19 hin dX6_put_38 ?_
        refine lv_iload_n hx hb dX6_put_39 rfl (lv_at hl 2 rfl) ?_
        refine lv_icmp_eq (tgt := 47) hx hb dX6_put_40 (by decide) (fun hc => ?_) (fun hc => ?_)
        · have h := h.1 hc
          refine lv_aload_n hx hb dX6_put_47 rfl (lv_at hl 0 rfl) ?_
          refine lv_iload_n hx hb dX6_put_48 rfl (lv_at hl 1 rfl) ?_
          refine lv_iload_n hx hb dX6_put_49 rfl (lv_at hl 3 rfl) ?_
          refine zc_VI (As := [.int x1, .int x3]) (rest := []) ⟨hx, hb, hml, hown, hts⟩ (cwV 2 hts gX6_put_X6_hasItem rfl rfl rfl hd_X6_hasItem ⟨Nat.le_of_ble_eq_true rfl, Nat.le_of_ble_eq_true rfl⟩) (mt_X6_hasItem l hZ σ10 _ x1 x3 _ h) (rc_6 hZ hE hP kd100) hE hP hS rfl hl.1 rfl (Nat.le_of_ble_eq_true rfl) dX6_put_50 ⟨Nat.zero_le _, Nat.zero_le _⟩ (fun r50 σ50 H locs h hP hS => ?_)
          refine lv_if_eq (tgt := 60) hx hb dX6_put_53 (by decide) (fun hc => ?_) (fun hc => ?_)
          · have h := h.1 hc
            refine lv_iconst (v := 2) hx hb dX6_put_60 (by decide) ?_
            exact B61 σ50 x1 x3 x4 2 _ _ _ h hP hS (lv_sub hl [0, 1, 3, 4] rfl)
          · have h := h.2 hc
            refine lv_iconst (v := 0) hx hb dX6_put_56 (by decide) ?_
            refine lv_goto (tgt := 61) hx hb dX6_put_57 (by decide) ?_
            exact B61 σ50 x1 x3 x4 0 _ _ _ h hP hS (lv_sub hl [0, 1, 3, 4] rfl)
        · have h := h.2 hc
          refine lv_iconst (v := 3) hx hb dX6_put_43 (by decide) ?_
          refine lv_goto (tgt := 61) hx hb dX6_put_44 (by decide) ?_
          exact B61 σ10 x1 x3 x4 3 _ _ _ h hP hS (lv_sub hl [0, 1, 3, 4] rfl)
      · have h := h.2 hc
        refine lv_iconst (v := 1) hx hb dX6_put_29 (by decide) ?_
        refine lv_goto (tgt := 61) hx hb dX6_put_30 (by decide) ?_
        exact B61 σ10 x1 x3 x4 1 _ _ _ h hP hS (lv_sub hl [0, 1, 3, 4] rfl)
    · have h := h.2 hc
      refine lv_bipush (v := (-2)) hx hb dX6_put_16 (by decide) ?_
      exact zr_I hx hb hr hlocks hP hS h dX6_put_18
theorem hd_X6_itemOf : yX6_itemOf.cls = RX6 ∧ yX6_itemOf.cls ≠ "java/lang/invoke/MethodHandle" ∧ yX6_itemOf.cls ≠ "java/lang/invoke/VarHandle" ∧ (parseMethodDescriptor yX6_itemOf.desc).map (fun d => d.parameters.length) = some 2 := by decide +kernel
set_option maxHeartbeats 4000000 in
set_option maxRecDepth 100000 in
theorem mt_X6_itemOf (l : Launch) {Z : ZW} (hZ : isM Z) (σ : SS) (sz : Nat) (x1 : Int32) (x2 : Int32) (K : SS → Int64 → Prop) (h : wp_X6_itemOf σ x1 x2 K) : mtZ l yX6_itemOf wsX6_itemOf (rm9 1 20) Z [.ref (zq Z 100), .int x1, .int x2] σ sz (qcL Z K sz) := by
  refine Met.ofW (cc := cX6_itemOf) (maxL := 4) (ret := (some .long)) (by decide) rfl ?_
  intro p e s m args below meth c s₁ B hml hv
  obtain ⟨hargs, hsz, hP, hE1, hE2, hE3⟩ := hv
  subst hsz
  have hE : envZ Z s := ⟨hE1, hE2, hE3⟩
  have hx := B.exec
  have hb := B.bytes
  have hr := B.returns
  have hlocks := B.notSynchronized
  have hts := atoms_spec (ws := wsX6_itemOf) B.pre
  have hown : s.vm.findClass RX6 = some m.cls := findClass_of_methodNamed B.named
  have hS : SZ Z s s.heap [] := va_S.rf
  obtain ⟨ls, hef, hl⟩ := z_entry m hargs (n := 4) (Nat.le_of_ble_eq_true rfl)
  rw [hef]
  have hl : lv_has ls 4 [(0, .ref (zq Z 100)), (1, .int x1), (2, .int x2)] := hl
  have in6 : ∀ w ∈ u_ws RX6 TX6 28, w ∈ wsX6_itemOf := by decide +kernel
  have lk237 := hts (.constantDouble RX6 237 (4620693217682128896)) (by decide +kernel)
  have lk48 := hts (.fieldLink RX6 48 "BeatDoubtsModel" "forms" "[I") (by decide +kernel)
  have lk54 := hts (.fieldLink RX6 54 "BeatDoubtsModel" "wholes" "[J") (by decide +kernel)
  have lk58 := hts (.fieldLink RX6 58 "BeatDoubtsModel" "numbers" "[D") (by decide +kernel)
  have lk62 := hts (.fieldLink RX6 62 "BeatDoubtsModel" "blanks" "[Z") (by decide +kernel)
  unfold wp_X6_itemOf at h
  refine lv_bipush (v := 40) hx hb dX6_itemOf_0 (by decide) ?_
  refine lv_iload_n hx hb dX6_itemOf_2 rfl (lv_at hl 1 rfl) ?_
  refine lv_imul hx hb dX6_itemOf_3 ?_
  refine lv_iload_n hx hb dX6_itemOf_4 rfl (lv_at hl 2 rfl) ?_
  refine lv_iadd hx hb dX6_itemOf_5 ?_
  refine lv_istore_n (lv' := [(3, .int ((40 * x1) + x2)), (0, .ref (zq Z 100)), (1, .int x1), (2, .int x2)]) hx hb dX6_itemOf_6 rfl hl (by decide) rfl (fun ls hl => ?_)
  refine lv_aload_n hx hb dX6_itemOf_7 rfl (lv_at hl 1 rfl) ?_
  refine fg_6_19 hZ hx hb hts in6 hown hE hP kd100 lk48 dX6_itemOf_8 ?_
  refine lv_iload_n hx hb dX6_itemOf_11 rfl (lv_at hl 2 rfl) ?_
  obtain ⟨hin, h⟩ := h
  refine al_22 hZ hx hb hE hP kr_6_19 hin dX6_itemOf_12 ?_
  refine lv_if_ne (tgt := 25) hx hb dX6_itemOf_13 (by decide) (fun hc => ?_) (fun hc => ?_)
  · have h := h.1 hc
    refine lv_aload_n hx hb dX6_itemOf_25 rfl (lv_at hl 1 rfl) ?_
    refine fg_6_23 hZ hx hb hts in6 hown hE hP kd100 lk62 dX6_itemOf_26 ?_
    refine lv_iload_n hx hb dX6_itemOf_29 rfl (lv_at hl 0 rfl) ?_
    obtain ⟨hin, h⟩ := h
    refine al_24 hZ hx hb hE hP kr_6_23 hin dX6_itemOf_30 ?_
    refine lv_if_eq (tgt := 41) hx hb dX6_itemOf_31 (by decide) (fun hc => ?_) (fun hc => ?_)
    · have h := h.1 hc
      refine lv_ldc2d (v := 4620693217682128896) hx hb hown lk237 dX6_itemOf_41 ?_
      refine lv_aload_n hx hb dX6_itemOf_44 rfl (lv_at hl 1 rfl) ?_
      refine fg_6_22 hZ hx hb hts in6 hown hE hP kd100 lk58 dX6_itemOf_45 ?_
      refine lv_iload_n hx hb dX6_itemOf_48 rfl (lv_at hl 0 rfl) ?_
      obtain ⟨hin, h⟩ := h
      refine al_27 hZ hx hb hE hP kr_6_22 hin dX6_itemOf_49 ?_
      obtain ⟨hne, h⟩ := h
      refine lv_dmul hx hb dX6_itemOf_50 hne ?_
      refine lv_d2l hx hb dX6_itemOf_51 ?_
      exact zr_L hx hb hr hlocks hP hS h dX6_itemOf_52
    · have h := h.2 hc
      refine lv_iconst (v := (-1)) hx hb dX6_itemOf_34 (by decide) ?_
      refine zc_SL (As := [.int (-1)]) (rest := []) ⟨hx, hb, hml, hown, hts⟩ (va_cwS 1 hts gX6_itemOf_X6_no rfl rfl rfl hd_X6_no ⟨Nat.le_of_ble_eq_true rfl, Nat.le_of_ble_eq_true rfl⟩) (mt_X6_no l hZ σ _ (-1) _ h) hE hP hS rfl hl.1 rfl (Nat.le_of_ble_eq_true rfl) dX6_itemOf_35 ⟨Nat.zero_le _, Nat.zero_le _⟩ (fun r35 σ35 H locs h hP hS => ?_)
      refine lv_goto (tgt := 52) hx hb dX6_itemOf_38 (by decide) ?_
      exact zr_L hx hb hr hlocks hP hS h dX6_itemOf_52
  · have h := h.2 hc
    refine lv_aload_n hx hb dX6_itemOf_16 rfl (lv_at hl 1 rfl) ?_
    refine fg_6_21 hZ hx hb hts in6 hown hE hP kd100 lk54 dX6_itemOf_17 ?_
    refine lv_iload_n hx hb dX6_itemOf_20 rfl (lv_at hl 0 rfl) ?_
    obtain ⟨hin, h⟩ := h
    refine al_25 hZ hx hb hE hP kr_6_21 hin dX6_itemOf_21 ?_
    refine lv_goto (tgt := 52) hx hb dX6_itemOf_22 (by decide) ?_
    exact zr_L hx hb hr hlocks hP hS h dX6_itemOf_52
