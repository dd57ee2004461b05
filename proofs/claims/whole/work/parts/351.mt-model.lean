theorem hd_X6_isNews : yX6_isNews.cls = RX6 ∧ yX6_isNews.cls ≠ "java/lang/invoke/MethodHandle" ∧ yX6_isNews.cls ≠ "java/lang/invoke/VarHandle" ∧ (parseMethodDescriptor yX6_isNews.desc).map (fun d => d.parameters.length) = some 1 := by decide +kernel
set_option maxHeartbeats 4000000 in
set_option maxRecDepth 100000 in
theorem mt_X6_isNews (l : Launch) {Z : ZW} (hZ : isM Z) (σ : SS) (sz : Nat) (x1 : Int32) (K : SS → Int32 → Prop) (h : wp_X6_isNews σ x1 K) : mtZ l yX6_isNews wsX6_isNews (rm9 2 42) Z [.ref (zq Z 100), .int x1] σ sz (qcI Z K sz) := by
  refine Met.ofW (cc := cX6_isNews) (maxL := 4) (ret := (some .boolean)) (by decide) rfl ?_
  intro p e s m args below meth c s₁ B hml hv
  obtain ⟨hargs, hsz, hP, hE1, hE2, hE3⟩ := hv
  subst hsz
  have hE : envZ Z s := ⟨hE1, hE2, hE3⟩
  have hx := B.exec
  have hb := B.bytes
  have hr := B.returns
  have hlocks := B.notSynchronized
  have hts := atoms_spec (ws := wsX6_isNews) B.pre
  have hown : s.vm.findClass RX6 = some m.cls := findClass_of_methodNamed B.named
  have hS : SZ Z s s.heap [] := va_S.rf
  obtain ⟨ls, hef, hl⟩ := z_entry m hargs (n := 4) (Nat.le_of_ble_eq_true rfl)
  rw [hef]
  have hl : lv_has ls 4 [(0, .ref (zq Z 100)), (1, .int x1)] := hl
  have in6 : ∀ w ∈ u_ws RX6 TX6 28, w ∈ wsX6_isNews := by decide +kernel
  have lk80 := hts (.fieldLink RX6 80 "BeatDoubtsModel" "many" "I") (by decide +kernel)
  have B18 : ∀ (n : Nat) (σ : SS) (x1 : Int32) (x2 : Int32) (x3 : Int32) (H : Heap) (locs : List Loc) (ls : Array Slot), fx4 (lb_X6_isNews_18 K) n σ x1 x2 x3 → PZ Z σ H → SZ Z s H locs → lv_has ls 4 [(0, .ref (zq Z 100)), (1, .int x1), (2, .int x2), (3, .int x3)] → W p l e (headSpec wsX6_isNews (rm9 2 42)).room s m args below meth c H locs 0 0 (MQ below (qcI Z K s.heap.size) args s 0 0 (aZ Z s.heap.size)) (F0 m 18 ls []) := by
    intro n18
    induction n18 with
    | zero => intro σ x1 x2 x3 H locs ls h; exact h.elim
    | succ n18 ih18 =>
      intro σ x1 x2 x3 H locs ls h hP hS hl
      have h : lb_X6_isNews_18 K (fx4 (lb_X6_isNews_18 K) n18) σ x1 x2 x3 := h
      unfold lb_X6_isNews_18 at h
      refine lv_iload_n hx hb dX6_isNews_18 rfl (lv_at hl 3 rfl) ?_
      refine lv_aload_n hx hb dX6_isNews_19 rfl (lv_at hl 0 rfl) ?_
      refine fg_6_1 hZ hx hb hts in6 hown hE hP kd100 lk80 dX6_isNews_20 ?_
      refine lv_icmp_ge (tgt := 63) hx hb dX6_isNews_23 (by decide) (fun hc => ?_) (fun hc => ?_)
      · have h := h.1 hc
        refine lv_iload_n hx hb dX6_isNews_63 rfl (lv_at hl 2 rfl) ?_
        exact zr_Z hx hb hr hlocks hP hS h.1 h.2 dX6_isNews_64
      · have h := h.2 hc
        refine lv_iload_n hx hb dX6_isNews_26 rfl (lv_at hl 2 rfl) ?_
        refine lv_if_eq (tgt := 63) hx hb dX6_isNews_27 (by decide) (fun hc => ?_) (fun hc => ?_)
        · have h := h.1 hc
          refine lv_iload_n hx hb dX6_isNews_63 rfl (lv_at hl 2 rfl) ?_
          exact zr_Z hx hb hr hlocks hP hS h.1 h.2 dX6_isNews_64
        · have h := h.2 hc
          refine lv_aload_n hx hb dX6_isNews_30 rfl (lv_at hl 0 rfl) ?_
          refine lv_iload_n hx hb dX6_isNews_31 rfl (lv_at hl 3 rfl) ?_
          refine zc_VI (As := [.int x3]) (rest := []) ⟨hx, hb, hml, hown, hts⟩ (cwV 1 hts gX6_isNews_X6_isLost rfl rfl rfl hd_X6_isLost ⟨Nat.le_of_ble_eq_true rfl, Nat.le_of_ble_eq_true rfl⟩) (mt_X6_isLost l hZ σ _ x3 _ h) (rc_6 hZ hE hP kd100) hE hP hS rfl hl.1 rfl (Nat.le_of_ble_eq_true rfl) dX6_isNews_32 ⟨Nat.zero_le _, Nat.zero_le _⟩ (fun r32 σ32 H locs h hP hS => ?_)
          refine lv_if_ne (tgt := 51) hx hb dX6_isNews_35 (by decide) (fun hc => ?_) (fun hc => ?_)
          · have h := h.1 hc
            refine lv_iconst (v := 1) hx hb dX6_isNews_51 (by decide) ?_
            refine lv_goto (tgt := 56) hx hb dX6_isNews_52 (by decide) ?_
            refine lv_istore_n (lv' := [(2, .int 1), (0, .ref (zq Z 100)), (1, .int x1), (3, .int x3)]) hx hb dX6_isNews_56 rfl hl (by decide) rfl (fun ls hl => ?_)
            refine lv_iinc (v := (x3 + 1)) (lv' := [(3, .int (x3 + 1)), (2, .int 1), (0, .ref (zq Z 100)), (1, .int x1)]) hx hb dX6_isNews_57 hl (k := 3) rfl rfl (by decide) rfl (fun ls hl => ?_)
            refine lv_goto (tgt := 18) hx hb dX6_isNews_60 (by decide) ?_
            exact ih18 σ32 x1 1 (x3 + 1) _ _ _ h hP hS (lv_sub hl [2, 3, 1, 0] rfl)
          · have h := h.2 hc
            refine lv_aload_n hx hb dX6_isNews_38 rfl (lv_at hl 0 rfl) ?_
            refine lv_iload_n hx hb dX6_isNews_39 rfl (lv_at hl 3 rfl) ?_
            refine zc_VI (As := [.int x3]) (rest := []) ⟨hx, hb, hml, hown, hts⟩ (cwV 1 hts gX6_isNews_X6_timeOf rfl rfl rfl hd_X6_timeOf ⟨Nat.le_of_ble_eq_true rfl, Nat.le_of_ble_eq_true rfl⟩) (mt_X6_timeOf l hZ σ32 _ x3 _ h) (rc_6 hZ hE hP kd100) hE hP hS rfl hl.1 rfl (Nat.le_of_ble_eq_true rfl) dX6_isNews_40 ⟨Nat.zero_le _, Nat.zero_le _⟩ (fun r40 σ40 H locs h hP hS => ?_)
            refine lv_aload_n hx hb dX6_isNews_43 rfl (lv_at hl 0 rfl) ?_
            refine lv_iload_n hx hb dX6_isNews_44 rfl (lv_at hl 1 rfl) ?_
            refine zc_VI (As := [.int x1]) (rest := [.int r40]) ⟨hx, hb, hml, hown, hts⟩ (cwV 1 hts gX6_isNews_X6_timeOf rfl rfl rfl hd_X6_timeOf ⟨Nat.le_of_ble_eq_true rfl, Nat.le_of_ble_eq_true rfl⟩) (mt_X6_timeOf l hZ σ40 _ x1 _ h) (rc_6 hZ hE hP kd100) hE hP hS rfl hl.1 rfl (Nat.le_of_ble_eq_true rfl) dX6_isNews_45 ⟨Nat.zero_le _, Nat.zero_le _⟩ (fun r45 σ45 H locs h hP hS => ?_)
            refine lv_icmp_lt (tgt := 55) hx hb dX6_isNews_48 (by decide) (fun hc => ?_) (fun hc => ?_)
            · have h := h.1 hc
              refine lv_iconst (v := 0) hx hb dX6_isNews_55 (by decide) ?_
              refine lv_istore_n (lv' := [(2, .int 0), (0, .ref (zq Z 100)), (1, .int x1), (3, .int x3)]) hx hb dX6_isNews_56 rfl hl (by decide) rfl (fun ls hl => ?_)
              refine lv_iinc (v := (x3 + 1)) (lv' := [(3, .int (x3 + 1)), (2, .int 0), (0, .ref (zq Z 100)), (1, .int x1)]) hx hb dX6_isNews_57 hl (k := 3) rfl rfl (by decide) rfl (fun ls hl => ?_)
              refine lv_goto (tgt := 18) hx hb dX6_isNews_60 (by decide) ?_
              exact ih18 σ45 x1 0 (x3 + 1) _ _ _ h hP hS (lv_sub hl [2, 3, 1, 0] rfl)
            · have h := h.2 hc
              refine lv_iconst (v := 1) hx hb dX6_isNews_51 (by decide) ?_
              refine lv_goto (tgt := 56) hx hb dX6_isNews_52 (by decide) ?_
              refine lv_istore_n (lv' := [(2, .int 1), (0, .ref (zq Z 100)), (1, .int x1), (3, .int x3)]) hx hb dX6_isNews_56 rfl hl (by decide) rfl (fun ls hl => ?_)
              refine lv_iinc (v := (x3 + 1)) (lv' := [(3, .int (x3 + 1)), (2, .int 1), (0, .ref (zq Z 100)), (1, .int x1)]) hx hb dX6_isNews_57 hl (k := 3) rfl rfl (by decide) rfl (fun ls hl => ?_)
              refine lv_goto (tgt := 18) hx hb dX6_isNews_60 (by decide) ?_
              exact ih18 σ45 x1 1 (x3 + 1) _ _ _ h hP hS (lv_sub hl [2, 3, 1, 0] rfl)
  unfold wp_X6_isNews at h
  refine lv_aload_n hx hb dX6_isNews_0 rfl (lv_at hl 0 rfl) ?_
  refine lv_iload_n hx hb dX6_isNews_1 rfl (lv_at hl 1 rfl) ?_
  refine zc_VI (As := [.int x1]) (rest := []) ⟨hx, hb, hml, hown, hts⟩ (cwV 1 hts gX6_isNews_X6_isLost rfl rfl rfl hd_X6_isLost ⟨Nat.le_of_ble_eq_true rfl, Nat.le_of_ble_eq_true rfl⟩) (mt_X6_isLost l hZ σ _ x1 _ h) (rc_6 hZ hE hP kd100) hE hP hS rfl hl.1 rfl (Nat.le_of_ble_eq_true rfl) dX6_isNews_2 ⟨Nat.zero_le _, Nat.zero_le _⟩ (fun r2 σ2 H locs h hP hS => ?_)
  refine lv_if_ne (tgt := 12) hx hb dX6_isNews_5 (by decide) (fun hc => ?_) (fun hc => ?_)
  · have h := h.1 hc
    refine lv_iconst (v := 0) hx hb dX6_isNews_12 (by decide) ?_
    refine lv_istore_n (lv' := [(2, .int 0), (0, .ref (zq Z 100)), (1, .int x1)]) hx hb dX6_isNews_13 rfl hl (by decide) rfl (fun ls hl => ?_)
    refine lv_iload_n hx hb dX6_isNews_14 rfl (lv_at hl 2 rfl) ?_
    refine lv_iconst (v := 1) hx hb dX6_isNews_15 (by decide) ?_
    refine lv_iadd hx hb dX6_isNews_16 ?_
    refine lv_istore_n (lv' := [(3, .int (x1 + 1)), (2, .int 0), (0, .ref (zq Z 100)), (1, .int x1)]) hx hb dX6_isNews_17 rfl hl (by decide) rfl (fun ls hl => ?_)
    obtain ⟨n, h⟩ := h
    exact B18 n σ2 x1 0 (x1 + 1) _ _ _ h hP hS (lv_sub hl [2, 3, 1, 0] rfl)
  · have h := h.2 hc
    refine lv_iconst (v := 1) hx hb dX6_isNews_8 (by decide) ?_
    refine lv_goto (tgt := 13) hx hb dX6_isNews_9 (by decide) ?_
    refine lv_istore_n (lv' := [(2, .int 1), (0, .ref (zq Z 100)), (1, .int x1)]) hx hb dX6_isNews_13 rfl hl (by decide) rfl (fun ls hl => ?_)
    refine lv_iload_n hx hb dX6_isNews_14 rfl (lv_at hl 2 rfl) ?_
    refine lv_iconst (v := 1) hx hb dX6_isNews_15 (by decide) ?_
    refine lv_iadd hx hb dX6_isNews_16 ?_
    refine lv_istore_n (lv' := [(3, .int (x1 + 1)), (2, .int 1), (0, .ref (zq Z 100)), (1, .int x1)]) hx hb dX6_isNews_17 rfl hl (by decide) rfl (fun ls hl => ?_)
    obtain ⟨n, h⟩ := h
    exact B18 n σ2 x1 1 (x1 + 1) _ _ _ h hP hS (lv_sub hl [2, 3, 1, 0] rfl)
theorem hd_X6_findsNews : yX6_findsNews.cls = RX6 ∧ yX6_findsNews.cls ≠ "java/lang/invoke/MethodHandle" ∧ yX6_findsNews.cls ≠ "java/lang/invoke/VarHandle" ∧ (parseMethodDescriptor yX6_findsNews.desc).map (fun d => d.parameters.length) = some 0 := by decide +kernel
set_option maxHeartbeats 4000000 in
set_option maxRecDepth 100000 in
theorem mt_X6_findsNews (l : Launch) {Z : ZW} (hZ : isM Z) (σ : SS) (sz : Nat) (K : SS → Prop) (h : wp_X6_findsNews σ K) : mtZ l yX6_findsNews wsX6_findsNews (rm9 3 65) Z [.ref (zq Z 100)] σ sz (qcV Z K sz) := by
  refine Met.ofW (cc := cX6_findsNews) (maxL := 2) (ret := none) (by decide) rfl ?_
  intro p e s m args below meth c s₁ B hml hv
  obtain ⟨hargs, hsz, hP, hE1, hE2, hE3⟩ := hv
  subst hsz
  have hE : envZ Z s := ⟨hE1, hE2, hE3⟩
  have hx := B.exec
  have hb := B.bytes
  have hr := B.returns
  have hlocks := B.notSynchronized
  have hts := atoms_spec (ws := wsX6_findsNews) B.pre
  have hown : s.vm.findClass RX6 = some m.cls := findClass_of_methodNamed B.named
  have hS : SZ Z s s.heap [] := va_S.rf
  obtain ⟨ls, hef, hl⟩ := z_entry m hargs (n := 2) (Nat.le_of_ble_eq_true rfl)
  rw [hef]
  have hl : lv_has ls 2 [(0, .ref (zq Z 100))] := hl
  have in6 : ∀ w ∈ u_ws RX6 TX6 28, w ∈ wsX6_findsNews := by decide +kernel
  have lk107 := hts (.fieldLink RX6 107 "BeatDoubtsModel" "newsMany" "I") (by decide +kernel)
  have lk23 := hts (.fieldLink RX6 23 "BeatDoubtsModel" "newsBeats" "[I") (by decide +kernel)
  have lk26 := hts (.fieldLink RX6 26 "BeatDoubtsModel" "newsTimes" "[I") (by decide +kernel)
  have lk80 := hts (.fieldLink RX6 80 "BeatDoubtsModel" "many" "I") (by decide +kernel)
  have B7 : ∀ (n : Nat) (σ : SS) (x1 : Int32) (H : Heap) (locs : List Loc) (ls : Array Slot), fx2 (lb_X6_findsNews_7 K) n σ x1 → PZ Z σ H → SZ Z s H locs → lv_has ls 2 [(0, .ref (zq Z 100)), (1, .int x1)] → W p l e (headSpec wsX6_findsNews (rm9 3 65)).room s m args below meth c H locs 0 0 (MQ below (qcV Z K s.heap.size) args s 0 0 (aZ Z s.heap.size)) (F0 m 7 ls []) := by
    intro n7
    induction n7 with
    | zero => intro σ x1 H locs ls h; exact h.elim
    | succ n7 ih7 =>
      intro σ x1 H locs ls h hP hS hl
      have h : lb_X6_findsNews_7 K (fx2 (lb_X6_findsNews_7 K) n7) σ x1 := h
      unfold lb_X6_findsNews_7 at h
      refine lv_iload_n hx hb dX6_findsNews_7 rfl (lv_at hl 1 rfl) ?_
      refine lv_aload_n hx hb dX6_findsNews_8 rfl (lv_at hl 0 rfl) ?_
      refine fg_6_1 hZ hx hb hts in6 hown hE hP kd100 lk80 dX6_findsNews_9 ?_
      refine lv_icmp_ge (tgt := 63) hx hb dX6_findsNews_12 (by decide) (fun hc => ?_) (fun hc => ?_)
      · have h := h.1 hc
        exact zr_V hx hb hr hlocks hP hS h dX6_findsNews_63
      · have h := h.2 hc
        refine lv_aload_n hx hb dX6_findsNews_15 rfl (lv_at hl 0 rfl) ?_
        refine lv_iload_n hx hb dX6_findsNews_16 rfl (lv_at hl 1 rfl) ?_
        refine zc_VI (As := [.int x1]) (rest := []) ⟨hx, hb, hml, hown, hts⟩ (cwV 1 hts gX6_findsNews_X6_isNews rfl rfl rfl hd_X6_isNews ⟨Nat.le_of_ble_eq_true rfl, Nat.le_of_ble_eq_true rfl⟩) (mt_X6_isNews l hZ σ _ x1 _ h) (rc_6 hZ hE hP kd100) hE hP hS rfl hl.1 rfl (Nat.le_of_ble_eq_true rfl) dX6_findsNews_17 ⟨Nat.zero_le _, Nat.zero_le _⟩ (fun r17 σ17 H locs h hP hS => ?_)
        refine lv_if_eq (tgt := 57) hx hb dX6_findsNews_20 (by decide) (fun hc => ?_) (fun hc => ?_)
        · have h := h.1 hc
          refine lv_iinc (v := (x1 + 1)) (lv' := [(1, .int (x1 + 1)), (0, .ref (zq Z 100))]) hx hb dX6_findsNews_57 hl (k := 1) rfl rfl (by decide) rfl (fun ls hl => ?_)
          refine lv_goto (tgt := 7) hx hb dX6_findsNews_60 (by decide) ?_
          exact ih7 σ17 (x1 + 1) _ _ _ h hP hS (lv_sub hl [1, 0] rfl)
        · have h := h.2 hc
          refine lv_aload_n hx hb dX6_findsNews_23 rfl (lv_at hl 0 rfl) ?_
          refine fg_6_5 hZ hx hb hts in6 hown hE hP kd100 lk23 dX6_findsNews_24 ?_
          refine lv_aload_n hx hb dX6_findsNews_27 rfl (lv_at hl 0 rfl) ?_
          refine fg_6_7 hZ hx hb hts in6 hown hE hP kd100 lk107 dX6_findsNews_28 ?_
          refine lv_iload_n hx hb dX6_findsNews_31 rfl (lv_at hl 1 rfl) ?_
          obtain ⟨hin, h⟩ := h
          refine as_20 hZ hx hb hE hP hS kr_6_5 hin dX6_findsNews_32 (fun H locs hP hS => ?_)
          refine lv_aload_n hx hb dX6_findsNews_33 rfl (lv_at hl 0 rfl) ?_
          refine fg_6_6 hZ hx hb hts in6 hown hE hP kd100 lk26 dX6_findsNews_34 ?_
          refine lv_aload_n hx hb dX6_findsNews_37 rfl (lv_at hl 0 rfl) ?_
          refine fg_6_7 hZ hx hb hts in6 hown hE hP kd100 lk107 dX6_findsNews_38 ?_
          refine lv_aload_n hx hb dX6_findsNews_41 rfl (lv_at hl 0 rfl) ?_
          refine lv_iload_n hx hb dX6_findsNews_42 rfl (lv_at hl 1 rfl) ?_
          refine zc_VI (As := [.int x1]) (rest := [.int (gI σ17 100 7), .ref (zq Z 103)]) ⟨hx, hb, hml, hown, hts⟩ (cwV 1 hts gX6_findsNews_X6_timeOf rfl rfl rfl hd_X6_timeOf ⟨Nat.le_of_ble_eq_true rfl, Nat.le_of_ble_eq_true rfl⟩) (mt_X6_timeOf l hZ (sA σ17 102 (gI σ17 100 7).toNatClampNeg x1) _ x1 _ h) (rc_6 hZ hE hP kd100) hE hP hS rfl hl.1 rfl (Nat.le_of_ble_eq_true rfl) dX6_findsNews_43 ⟨Nat.zero_le _, Nat.zero_le _⟩ (fun r43 σ43 H locs h hP hS => ?_)
          obtain ⟨hin, h⟩ := h
          refine as_20 hZ hx hb hE hP hS kr_6_6 hin dX6_findsNews_46 (fun H locs hP hS => ?_)
          refine lv_aload_n hx hb dX6_findsNews_47 rfl (lv_at hl 0 rfl) ?_
          refine lv_dup hx hb dX6_findsNews_48 rfl ?_
          refine fg_6_7 hZ hx hb hts in6 hown hE hP kd100 lk107 dX6_findsNews_49 ?_
          refine lv_iconst (v := 1) hx hb dX6_findsNews_52 (by decide) ?_
          refine lv_iadd hx hb dX6_findsNews_53 ?_
          refine fp_6_7 hZ hx hb hts in6 hown hE hP hS kd100 lk107 dX6_findsNews_54 (fun H locs hP hS => ?_)
          refine lv_iinc (v := (x1 + 1)) (lv' := [(1, .int (x1 + 1)), (0, .ref (zq Z 100))]) hx hb dX6_findsNews_57 hl (k := 1) rfl rfl (by decide) rfl (fun ls hl => ?_)
          refine lv_goto (tgt := 7) hx hb dX6_findsNews_60 (by decide) ?_
          exact ih7 (sI (sA σ43 103 (gI σ17 100 7).toNatClampNeg r43) 100 7 ((gI σ43 100 7) + 1)) (x1 + 1) _ _ _ h hP hS (lv_sub hl [1, 0] rfl)
  unfold wp_X6_findsNews at h
  refine lv_aload_n hx hb dX6_findsNews_0 rfl (lv_at hl 0 rfl) ?_
  refine lv_iconst (v := 0) hx hb dX6_findsNews_1 (by decide) ?_
  refine fp_6_7 hZ hx hb hts in6 hown hE hP hS kd100 lk107 dX6_findsNews_2 (fun H locs hP hS => ?_)
  refine lv_iconst (v := 0) hx hb dX6_findsNews_5 (by decide) ?_
  refine lv_istore_n (lv' := [(1, .int 0), (0, .ref (zq Z 100))]) hx hb dX6_findsNews_6 rfl hl (by decide) rfl (fun ls hl => ?_)
  obtain ⟨n, h⟩ := h
  exact B7 n (sI σ 100 7 0) 0 _ _ _ h hP hS (lv_sub hl [1, 0] rfl)
theorem hd_X6_cameOf : yX6_cameOf.cls = RX6 ∧ yX6_cameOf.cls ≠ "java/lang/invoke/MethodHandle" ∧ yX6_cameOf.cls ≠ "java/lang/invoke/VarHandle" ∧ (parseMethodDescriptor yX6_cameOf.desc).map (fun d => d.parameters.length) = some 2 := by decide +kernel
set_option maxHeartbeats 4000000 in
set_option maxRecDepth 100000 in
theorem mt_X6_cameOf (l : Launch) {Z : ZW} (hZ : isM Z) (σ : SS) (sz : Nat) (x1 : Int32) (x2 : Int32) (K : SS → Int32 → Prop) (h : wp_X6_cameOf σ x1 x2 K) : mtZ l yX6_cameOf wsX6_cameOf (rm9 4 86) Z [.ref (zq Z 100), .int x1, .int x2] σ sz (qcI Z K sz) := by
  refine Met.ofW (cc := cX6_cameOf) (maxL := 5) (ret := (some .int)) (by decide) rfl ?_
  intro p e s m args below meth c s₁ B hml hv
  obtain ⟨hargs, hsz, hP, hE1, hE2, hE3⟩ := hv
  subst hsz
  have hE : envZ Z s := ⟨hE1, hE2, hE3⟩
  have hx := B.exec
  have hb := B.bytes
  have hr := B.returns
  have hlocks := B.notSynchronized
  have hts := atoms_spec (ws := wsX6_cameOf) B.pre
  have hown : s.vm.findClass RX6 = some m.cls := findClass_of_methodNamed B.named
  have hS : SZ Z s s.heap [] := va_S.rf
  obtain ⟨ls, hef, hl⟩ := z_entry m hargs (n := 5) (Nat.le_of_ble_eq_true rfl)
  rw [hef]
  have hl : lv_has ls 5 [(0, .ref (zq Z 100)), (1, .int x1), (2, .int x2)] := hl
  have in6 : ∀ w ∈ u_ws RX6 TX6 28, w ∈ wsX6_cameOf := by decide +kernel
  have lk107 := hts (.fieldLink RX6 107 "BeatDoubtsModel" "newsMany" "I") (by decide +kernel)
  have lk23 := hts (.fieldLink RX6 23 "BeatDoubtsModel" "newsBeats" "[I") (by decide +kernel)
  have lk7 := hts (.fieldLink RX6 7 "BeatDoubtsModel" "delays" "[I") (by decide +kernel)
  have B42 : ∀ (σ : SS) (x1 : Int32) (x2 : Int32) (x3 : Int32) (H : Heap) (locs : List Loc) (ls : Array Slot), bl_X6_cameOf_42 K σ x1 x2 x3 → PZ Z σ H → SZ Z s H locs → lv_has ls 5 [(0, .ref (zq Z 100)), (1, .int x1), (2, .int x2), (3, .int x3)] → W p l e (headSpec wsX6_cameOf (rm9 4 86)).room s m args below meth c H locs 0 0 (MQ below (qcI Z K s.heap.size) args s 0 0 (aZ Z s.heap.size)) (F0 m 42 ls []) := by
    intro σ x1 x2 x3 H locs ls h hP hS hl
    unfold bl_X6_cameOf_42 at h
    refine lv_iload_n hx hb dX6_cameOf_42 rfl (lv_at hl 2 rfl) ?_
    refine lv_if_ne (tgt := 67) hx hb dX6_cameOf_43 (by decide) (fun hc => ?_) (fun hc => ?_)
    · have h := h.1 hc
      refine lv_iload_n hx hb dX6_cameOf_67 rfl (lv_at hl 2 rfl) ?_
      refine lv_iconst (v := 1) hx hb dX6_cameOf_68 (by decide) ?_
      refine lv_icmp_ne (tgt := 80) hx hb dX6_cameOf_69 (by decide) (fun hc => ?_) (fun hc => ?_)
      · have h := h.1 hc
        refine lv_iload_n hx hb dX6_cameOf_80 rfl (lv_at hl 3 rfl) ?_
        exact zr_I hx hb hr hlocks hP hS h dX6_cameOf_81
      · have h := h.2 hc
        refine lv_aload_n hx hb dX6_cameOf_72 rfl (lv_at hl 0 rfl) ?_
        refine lv_iload_n hx hb dX6_cameOf_73 rfl (lv_at hl 1 rfl) ?_
        refine zc_VI (As := [.int x1]) (rest := []) ⟨hx, hb, hml, hown, hts⟩ (cwV 1 hts gX6_cameOf_X6_timeOf rfl rfl rfl hd_X6_timeOf ⟨Nat.le_of_ble_eq_true rfl, Nat.le_of_ble_eq_true rfl⟩) (mt_X6_timeOf l hZ σ _ x1 _ h) (rc_6 hZ hE hP kd100) hE hP hS rfl hl.1 rfl (Nat.le_of_ble_eq_true rfl) dX6_cameOf_74 ⟨Nat.zero_le _, Nat.zero_le _⟩ (fun r74 σ74 H locs h hP hS => ?_)
        refine lv_goto (tgt := 81) hx hb dX6_cameOf_77 (by decide) ?_
        exact zr_I hx hb hr hlocks hP hS h dX6_cameOf_81
    · have h := h.2 hc
      refine lv_aload_n hx hb dX6_cameOf_46 rfl (lv_at hl 0 rfl) ?_
      refine lv_iload_n hx hb dX6_cameOf_47 rfl (lv_at hl 1 rfl) ?_
      refine zc_VI (As := [.int x1]) (rest := []) ⟨hx, hb, hml, hown, hts⟩ (cwV 1 hts gX6_cameOf_X6_isLost rfl rfl rfl hd_X6_isLost ⟨Nat.le_of_ble_eq_true rfl, Nat.le_of_ble_eq_true rfl⟩) (mt_X6_isLost l hZ σ _ x1 _ h) (rc_6 hZ hE hP kd100) hE hP hS rfl hl.1 rfl (Nat.le_of_ble_eq_true rfl) dX6_cameOf_48 ⟨Nat.zero_le _, Nat.zero_le _⟩ (fun r48 σ48 H locs h hP hS => ?_)
      refine lv_if_eq (tgt := 58) hx hb dX6_cameOf_51 (by decide) (fun hc => ?_) (fun hc => ?_)
      · have h := h.1 hc
        refine lv_aload_n hx hb dX6_cameOf_58 rfl (lv_at hl 0 rfl) ?_
        refine fg_6_0 hZ hx hb hts in6 hown hE hP kd100 lk7 dX6_cameOf_59 ?_
        refine lv_iload_n hx hb dX6_cameOf_62 rfl (lv_at hl 1 rfl) ?_
        obtain ⟨hin, h⟩ := h
        refine al_20 hZ hx hb hE hP kr_6_0 hin dX6_cameOf_63 ?_
        refine lv_goto (tgt := 81) hx hb dX6_cameOf_64 (by decide) ?_
        exact zr_I hx hb hr hlocks hP hS h dX6_cameOf_81
      · have h := h.2 hc
        refine lv_iconst (v := (-1)) hx hb dX6_cameOf_54 (by decide) ?_
        refine lv_goto (tgt := 81) hx hb dX6_cameOf_55 (by decide) ?_
        exact zr_I hx hb hr hlocks hP hS h dX6_cameOf_81
  have B9 : ∀ (n : Nat) (σ : SS) (x1 : Int32) (x2 : Int32) (x3 : Int32) (x4 : Int32) (H : Heap) (locs : List Loc) (ls : Array Slot), fx5 (lb_X6_cameOf_9 K) n σ x1 x2 x3 x4 → PZ Z σ H → SZ Z s H locs → lv_has ls 5 [(0, .ref (zq Z 100)), (1, .int x1), (2, .int x2), (3, .int x3), (4, .int x4)] → W p l e (headSpec wsX6_cameOf (rm9 4 86)).room s m args below meth c H locs 0 0 (MQ below (qcI Z K s.heap.size) args s 0 0 (aZ Z s.heap.size)) (F0 m 9 ls []) := by
    intro n9
    induction n9 with
    | zero => intro σ x1 x2 x3 x4 H locs ls h; exact h.elim
    | succ n9 ih9 =>
      intro σ x1 x2 x3 x4 H locs ls h hP hS hl
      have h : lb_X6_cameOf_9 K (fx5 (lb_X6_cameOf_9 K) n9) σ x1 x2 x3 x4 := h
      unfold lb_X6_cameOf_9 at h
      refine lv_iload hx hb dX6_cameOf_9 (lv_at hl 4 rfl) ?_
      refine lv_aload_n hx hb dX6_cameOf_11 rfl (lv_at hl 0 rfl) ?_
      refine fg_6_7 hZ hx hb hts in6 hown hE hP kd100 lk107 dX6_cameOf_12 ?_
      refine lv_icmp_ge (tgt := 42) hx hb dX6_cameOf_15 (by decide) (fun hc => ?_) (fun hc => ?_)
      · have h := h.1 hc
        exact B42 σ x1 x2 x3 _ _ _ h hP hS (lv_sub hl [0, 1, 2, 3] rfl)
      · have h := h.2 hc
        refine lv_aload_n hx hb dX6_cameOf_18 rfl (lv_at hl 0 rfl) ?_
        refine fg_6_5 hZ hx hb hts in6 hown hE hP kd100 lk23 dX6_cameOf_19 ?_
        refine lv_iload hx hb dX6_cameOf_22 (lv_at hl 4 rfl) ?_
        obtain ⟨hin, h⟩ := h
        refine al_20 hZ hx hb hE hP kr_6_5 hin dX6_cameOf_24 ?_
        refine lv_iload_n hx hb dX6_cameOf_25 rfl (lv_at hl 1 rfl) ?_
        refine lv_icmp_ne (tgt := 34) hx hb dX6_cameOf_26 (by decide) (fun hc => ?_) (fun hc => ?_)
        · have h := h.1 hc
          refine lv_iload_n hx hb dX6_cameOf_34 rfl (lv_at hl 3 rfl) ?_
          refine lv_istore_n (lv' := [(3, .int x3), (0, .ref (zq Z 100)), (1, .int x1), (2, .int x2), (4, .int x4)]) hx hb dX6_cameOf_35 rfl hl (by decide) rfl (fun ls hl => ?_)
          refine lv_iinc (v := (x4 + 1)) (lv' := [(4, .int (x4 + 1)), (3, .int x3), (0, .ref (zq Z 100)), (1, .int x1), (2, .int x2)]) hx hb dX6_cameOf_36 hl (k := 4) rfl rfl (by decide) rfl (fun ls hl => ?_)
          refine lv_goto (tgt := 9) hx hb dX6_cameOf_39 (by decide) ?_
          exact ih9 σ x1 x2 x3 (x4 + 1) _ _ _ h hP hS (lv_sub hl [2, 3, 4, 1, 0] rfl)
        · have h := h.2 hc
          refine lv_iload hx hb dX6_cameOf_29 (lv_at hl 4 rfl) ?_
          refine lv_goto (tgt := 35) hx hb dX6_cameOf_31 (by decide) ?_
          refine lv_istore_n (lv' := [(3, .int x4), (0, .ref (zq Z 100)), (1, .int x1), (2, .int x2), (4, .int x4)]) hx hb dX6_cameOf_35 rfl hl (by decide) rfl (fun ls hl => ?_)
          refine lv_iinc (v := (x4 + 1)) (lv' := [(4, .int (x4 + 1)), (3, .int x4), (0, .ref (zq Z 100)), (1, .int x1), (2, .int x2)]) hx hb dX6_cameOf_36 hl (k := 4) rfl rfl (by decide) rfl (fun ls hl => ?_)
          refine lv_goto (tgt := 9) hx hb dX6_cameOf_39 (by decide) ?_
          exact ih9 σ x1 x2 x4 (x4 + 1) _ _ _ h hP hS (lv_sub hl [2, 3, 4, 1, 0] rfl)
  unfold wp_X6_cameOf at h
  refine lv_aload_n hx hb dX6_cameOf_0 rfl (lv_at hl 0 rfl) ?_
  refine zc_VV (As := []) (rest := []) ⟨hx, hb, hml, hown, hts⟩ (cwV 0 hts gX6_cameOf_X6_findsNews rfl rfl rfl hd_X6_findsNews ⟨Nat.le_of_ble_eq_true rfl, Nat.le_of_ble_eq_true rfl⟩) (mt_X6_findsNews l hZ σ _  _ h) (rc_6 hZ hE hP kd100) hE hP hS rfl hl.1 rfl (Nat.le_of_ble_eq_true rfl) dX6_cameOf_1 ⟨Nat.zero_le _, Nat.zero_le _⟩ (fun σ1 H locs h hP hS => ?_)
  refine lv_iconst (v := (-1)) hx hb dX6_cameOf_4 (by decide) ?_
  refine lv_istore_n (lv' := [(3, .int (-1)), (0, .ref (zq Z 100)), (1, .int x1), (2, .int x2)]) hx hb dX6_cameOf_5 rfl hl (by decide) rfl (fun ls hl => ?_)
  refine lv_iconst (v := 0) hx hb dX6_cameOf_6 (by decide) ?_
  refine lv_istore (lv' := [(4, .int 0), (3, .int (-1)), (0, .ref (zq Z 100)), (1, .int x1), (2, .int x2)]) hx hb dX6_cameOf_7 hl (by decide) rfl (fun ls hl => ?_)
  obtain ⟨n, h⟩ := h
  exact B9 n σ1 x1 x2 (-1) 0 _ _ _ h hP hS (lv_sub hl [2, 3, 4, 1, 0] rfl)
theorem hd_X6_came : yX6_came.cls = RX6 ∧ yX6_came.cls ≠ "java/lang/invoke/MethodHandle" ∧ yX6_came.cls ≠ "java/lang/invoke/VarHandle" ∧ (parseMethodDescriptor yX6_came.desc).map (fun d => d.parameters.length) = some 2 := by decide +kernel
set_option maxHeartbeats 4000000 in
set_option maxRecDepth 100000 in
theorem mt_X6_came (l : Launch) {Z : ZW} (hZ : isM Z) (σ : SS) (sz : Nat) (x1 : Int32) (x2 : Int32) (K : SS → Int32 → Prop) (h : wp_X6_came σ x1 x2 K) : mtZ l yX6_came wsX6_came (rm9 5 110) Z [.ref (zq Z 100), .int x1, .int x2] σ sz (qcI Z K sz) := by
  refine Met.ofW (cc := cX6_came) (maxL := 3) (ret := (some .int)) (by decide) rfl ?_
  intro p e s m args below meth c s₁ B hml hv
  obtain ⟨hargs, hsz, hP, hE1, hE2, hE3⟩ := hv
  subst hsz
  have hE : envZ Z s := ⟨hE1, hE2, hE3⟩
  have hx := B.exec
  have hb := B.bytes
  have hr := B.returns
  have hlocks := B.notSynchronized
  have hts := atoms_spec (ws := wsX6_came) B.pre
  have hown : s.vm.findClass RX6 = some m.cls := findClass_of_methodNamed B.named
  have hS : SZ Z s s.heap [] := va_S.rf
  obtain ⟨ls, hef, hl⟩ := z_entry m hargs (n := 3) (Nat.le_of_ble_eq_true rfl)
  rw [hef]
  have hl : lv_has ls 3 [(0, .ref (zq Z 100)), (1, .int x1), (2, .int x2)] := hl
  unfold wp_X6_came at h
  refine lv_aload_n hx hb dX6_came_0 rfl (lv_at hl 0 rfl) ?_
  refine lv_iload_n hx hb dX6_came_1 rfl (lv_at hl 1 rfl) ?_
  refine zc_VI (As := [.int x1]) (rest := []) ⟨hx, hb, hml, hown, hts⟩ (cwV 1 hts gX6_came_X6_isBeat rfl rfl rfl hd_X6_isBeat ⟨Nat.le_of_ble_eq_true rfl, Nat.le_of_ble_eq_true rfl⟩) (mt_X6_isBeat l hZ σ _ x1 _ h) (rc_6 hZ hE hP kd100) hE hP hS rfl hl.1 rfl (Nat.le_of_ble_eq_true rfl) dX6_came_2 ⟨Nat.zero_le _, Nat.zero_le _⟩ (fun r2 σ2 H locs h hP hS => ?_)
  refine lv_if_eq (tgt := 26) hx hb dX6_came_5 (by decide) (fun hc => ?_) (fun hc => ?_)
  · have h := h.1 hc
    refine lv_bipush (v := (-2)) hx hb dX6_came_26 (by decide) ?_
    exact zr_I hx hb hr hlocks hP hS h dX6_came_28
  · have h := h.2 hc
    refine lv_iload_n hx hb dX6_came_8 rfl (lv_at hl 2 rfl) ?_
    refine lv_iconst (v := 0) hx hb dX6_came_9 (by decide) ?_
    refine lv_iconst (v := 2) hx hb dX6_came_10 (by decide) ?_
    refine zc_SI (As := [.int x2, .int 0, .int 2]) (rest := []) ⟨hx, hb, hml, hown, hts⟩ (va_cwS 3 hts gX6_came_X6_in rfl rfl rfl hd_X6_in ⟨Nat.le_of_ble_eq_true rfl, Nat.le_of_ble_eq_true rfl⟩) (mt_X6_in l hZ σ2 _ x2 0 2 _ h) hE hP hS rfl hl.1 rfl (Nat.le_of_ble_eq_true rfl) dX6_came_11 ⟨Nat.zero_le _, Nat.zero_le _⟩ (fun r11 σ11 H locs h hP hS => ?_)
    refine lv_if_eq (tgt := 26) hx hb dX6_came_14 (by decide) (fun hc => ?_) (fun hc => ?_)
    · have h := h.1 hc
      refine lv_bipush (v := (-2)) hx hb dX6_came_26 (by decide) ?_
      exact zr_I hx hb hr hlocks hP hS h dX6_came_28
    · have h := h.2 hc
      refine lv_aload_n hx hb dX6_came_17 rfl (lv_at hl 0 rfl) ?_
      refine lv_iload_n hx hb dX6_came_18 rfl (lv_at hl 1 rfl) ?_
      refine lv_iload_n hx hb dX6_came_19 rfl (lv_at hl 2 rfl) ?_
      refine zc_VI (As := [.int x1, .int x2]) (rest := []) ⟨hx, hb, hml, hown, hts⟩ (cwV 2 hts gX6_came_X6_cameOf rfl rfl rfl hd_X6_cameOf ⟨Nat.le_of_ble_eq_true rfl, Nat.le_of_ble_eq_true rfl⟩) (mt_X6_cameOf l hZ σ11 _ x1 x2 _ h) (rc_6 hZ hE hP kd100) hE hP hS rfl hl.1 rfl (Nat.le_of_ble_eq_true rfl) dX6_came_20 ⟨Nat.zero_le _, Nat.zero_le _⟩ (fun r20 σ20 H locs h hP hS => ?_)
      refine lv_goto (tgt := 28) hx hb dX6_came_23 (by decide) ?_
      exact zr_I hx hb hr hlocks hP hS h dX6_came_28
theorem hd_X6_gapsBy : yX6_gapsBy.cls = RX6 ∧ yX6_gapsBy.cls ≠ "java/lang/invoke/MethodHandle" ∧ yX6_gapsBy.cls ≠ "java/lang/invoke/VarHandle" ∧ (parseMethodDescriptor yX6_gapsBy.desc).map (fun d => d.parameters.length) = some 1 := by decide +kernel
set_option maxHeartbeats 4000000 in
set_option maxRecDepth 100000 in
theorem mt_X6_gapsBy (l : Launch) {Z : ZW} (hZ : isM Z) (σ : SS) (sz : Nat) (x1 : Int32) (K : SS → Int32 → Prop) (h : wp_X6_gapsBy σ x1 K) : mtZ l yX6_gapsBy wsX6_gapsBy (rm9 0 0) Z [.ref (zq Z 100), .int x1] σ sz (qcI Z K sz) := by
  refine Met.ofW (cc := cX6_gapsBy) (maxL := 2) (ret := (some .int)) (by decide) rfl ?_
  intro p e s m args below meth c s₁ B hml hv
  obtain ⟨hargs, hsz, hP, hE1, hE2, hE3⟩ := hv
  subst hsz
  have hE : envZ Z s := ⟨hE1, hE2, hE3⟩
  have hx := B.exec
  have hb := B.bytes
  have hr := B.returns
  have hlocks := B.notSynchronized
  have hts := atoms_spec (ws := wsX6_gapsBy) B.pre
  have hown : s.vm.findClass RX6 = some m.cls := findClass_of_methodNamed B.named
  have hS : SZ Z s s.heap [] := va_S.rf
  obtain ⟨ls, hef, hl⟩ := z_entry m hargs (n := 2) (Nat.le_of_ble_eq_true rfl)
  rw [hef]
  have hl : lv_has ls 2 [(0, .ref (zq Z 100)), (1, .int x1)] := hl
  have in6 : ∀ w ∈ u_ws RX6 TX6 28, w ∈ wsX6_gapsBy := by decide +kernel
  have lk17 := hts (.fieldLink RX6 17 "BeatDoubtsModel" "windowNow" "I") (by decide +kernel)
  unfold wp_X6_gapsBy at h
  refine lv_iload_n hx hb dX6_gapsBy_0 rfl (lv_at hl 1 rfl) ?_
  refine lv_aload_n hx hb dX6_gapsBy_1 rfl (lv_at hl 0 rfl) ?_
  refine fg_6_3 hZ hx hb hts in6 hown hE hP kd100 lk17 dX6_gapsBy_2 ?_
  refine lv_icmp_ge (tgt := 12) hx hb dX6_gapsBy_5 (by decide) (fun hc => ?_) (fun hc => ?_)
  · have h := h.1 hc
    refine lv_aload_n hx hb dX6_gapsBy_12 rfl (lv_at hl 0 rfl) ?_
    refine fg_6_3 hZ hx hb hts in6 hown hE hP kd100 lk17 dX6_gapsBy_13 ?_
    exact zr_I hx hb hr hlocks hP hS h dX6_gapsBy_16
  · have h := h.2 hc
    refine lv_iload_n hx hb dX6_gapsBy_8 rfl (lv_at hl 1 rfl) ?_
    refine lv_goto (tgt := 16) hx hb dX6_gapsBy_9 (by decide) ?_
    exact zr_I hx hb hr hlocks hP hS h dX6_gapsBy_16
theorem hd_X6_gapAt : yX6_gapAt.cls = RX6 ∧ yX6_gapAt.cls ≠ "java/lang/invoke/MethodHandle" ∧ yX6_gapAt.cls ≠ "java/lang/invoke/VarHandle" ∧ (parseMethodDescriptor yX6_gapAt.desc).map (fun d => d.parameters.length) = some 2 := by decide +kernel
set_option maxHeartbeats 4000000 in
set_option maxRecDepth 100000 in
theorem mt_X6_gapAt (l : Launch) {Z : ZW} (hZ : isM Z) (σ : SS) (sz : Nat) (x1 : Int32) (x2 : Int32) (K : SS → Int32 → Prop) (h : wp_X6_gapAt σ x1 x2 K) : mtZ l yX6_gapAt wsX6_gapAt (rm9 0 0) Z [.ref (zq Z 100), .int x1, .int x2] σ sz (qcI Z K sz) := by
  refine Met.ofW (cc := cX6_gapAt) (maxL := 3) (ret := (some .int)) (by decide) rfl ?_
  intro p e s m args below meth c s₁ B hml hv
  obtain ⟨hargs, hsz, hP, hE1, hE2, hE3⟩ := hv
  subst hsz
  have hE : envZ Z s := ⟨hE1, hE2, hE3⟩
  have hx := B.exec
  have hb := B.bytes
  have hr := B.returns
  have hlocks := B.notSynchronized
  have hts := atoms_spec (ws := wsX6_gapAt) B.pre
  have hown : s.vm.findClass RX6 = some m.cls := findClass_of_methodNamed B.named
  have hS : SZ Z s s.heap [] := va_S.rf
  obtain ⟨ls, hef, hl⟩ := z_entry m hargs (n := 3) (Nat.le_of_ble_eq_true rfl)
  rw [hef]
  have hl : lv_has ls 3 [(0, .ref (zq Z 100)), (1, .int x1), (2, .int x2)] := hl
  have in6 : ∀ w ∈ u_ws RX6 TX6 28, w ∈ wsX6_gapAt := by decide +kernel
  have lk26 := hts (.fieldLink RX6 26 "BeatDoubtsModel" "newsTimes" "[I") (by decide +kernel)
  unfold wp_X6_gapAt at h
  refine lv_aload_n hx hb dX6_gapAt_0 rfl (lv_at hl 0 rfl) ?_
  refine fg_6_6 hZ hx hb hts in6 hown hE hP kd100 lk26 dX6_gapAt_1 ?_
  refine lv_iload_n hx hb dX6_gapAt_4 rfl (lv_at hl 1 rfl) ?_
  refine lv_iload_n hx hb dX6_gapAt_5 rfl (lv_at hl 2 rfl) ?_
  refine lv_isub hx hb dX6_gapAt_6 ?_
  obtain ⟨hin, h⟩ := h
  refine al_20 hZ hx hb hE hP kr_6_6 hin dX6_gapAt_7 ?_
  refine lv_aload_n hx hb dX6_gapAt_8 rfl (lv_at hl 0 rfl) ?_
  refine fg_6_6 hZ hx hb hts in6 hown hE hP kd100 lk26 dX6_gapAt_9 ?_
  refine lv_iload_n hx hb dX6_gapAt_12 rfl (lv_at hl 1 rfl) ?_
  refine lv_iload_n hx hb dX6_gapAt_13 rfl (lv_at hl 2 rfl) ?_
  refine lv_isub hx hb dX6_gapAt_14 ?_
  refine lv_iconst (v := 1) hx hb dX6_gapAt_15 (by decide) ?_
  refine lv_isub hx hb dX6_gapAt_16 ?_
  obtain ⟨hin, h⟩ := h
  refine al_20 hZ hx hb hE hP kr_6_6 hin dX6_gapAt_17 ?_
  refine lv_isub hx hb dX6_gapAt_18 ?_
  exact zr_I hx hb hr hlocks hP hS h dX6_gapAt_19
theorem hd_X6_newsOf : yX6_newsOf.cls = RX6 ∧ yX6_newsOf.cls ≠ "java/lang/invoke/MethodHandle" ∧ yX6_newsOf.cls ≠ "java/lang/invoke/VarHandle" ∧ (parseMethodDescriptor yX6_newsOf.desc).map (fun d => d.parameters.length) = some 2 := by decide +kernel
set_option maxHeartbeats 4000000 in
set_option maxRecDepth 100000 in
theorem mt_X6_newsOf (l : Launch) {Z : ZW} (hZ : isM Z) (σ : SS) (sz : Nat) (x1 : Int32) (x2 : Int32) (K : SS → Int32 → Prop) (h : wp_X6_newsOf σ x1 x2 K) : mtZ l yX6_newsOf wsX6_newsOf (rm9 1 21) Z [.ref (zq Z 100), .int x1, .int x2] σ sz (qcI Z K sz) := by
  refine Met.ofW (cc := cX6_newsOf) (maxL := 3) (ret := (some .int)) (by decide) rfl ?_
  intro p e s m args below meth c s₁ B hml hv
  obtain ⟨hargs, hsz, hP, hE1, hE2, hE3⟩ := hv
  subst hsz
  have hE : envZ Z s := ⟨hE1, hE2, hE3⟩
  have hx := B.exec
  have hb := B.bytes
  have hr := B.returns
  have hlocks := B.notSynchronized
  have hts := atoms_spec (ws := wsX6_newsOf) B.pre
  have hown : s.vm.findClass RX6 = some m.cls := findClass_of_methodNamed B.named
  have hS : SZ Z s s.heap [] := va_S.rf
  obtain ⟨ls, hef, hl⟩ := z_entry m hargs (n := 3) (Nat.le_of_ble_eq_true rfl)
  rw [hef]
  have hl : lv_has ls 3 [(0, .ref (zq Z 100)), (1, .int x1), (2, .int x2)] := hl
  have in6 : ∀ w ∈ u_ws RX6 TX6 28, w ∈ wsX6_newsOf := by decide +kernel
  have lk23 := hts (.fieldLink RX6 23 "BeatDoubtsModel" "newsBeats" "[I") (by decide +kernel)
  have lk26 := hts (.fieldLink RX6 26 "BeatDoubtsModel" "newsTimes" "[I") (by decide +kernel)
  unfold wp_X6_newsOf at h
  refine lv_iload_n hx hb dX6_newsOf_0 rfl (lv_at hl 2 rfl) ?_
  refine lv_if_ne (tgt := 13) hx hb dX6_newsOf_1 (by decide) (fun hc => ?_) (fun hc => ?_)
  · have h := h.1 hc
    refine lv_iload_n hx hb dX6_newsOf_13 rfl (lv_at hl 2 rfl) ?_
    refine lv_iconst (v := 1) hx hb dX6_newsOf_14 (by decide) ?_
    refine lv_icmp_ne (tgt := 27) hx hb dX6_newsOf_15 (by decide) (fun hc => ?_) (fun hc => ?_)
    · have h := h.1 hc
      refine lv_aload_n hx hb dX6_newsOf_27 rfl (lv_at hl 0 rfl) ?_
      refine lv_iload_n hx hb dX6_newsOf_28 rfl (lv_at hl 1 rfl) ?_
      refine zc_VI (As := [.int x1]) (rest := []) ⟨hx, hb, hml, hown, hts⟩ (cwV 1 hts gX6_newsOf_X6_gapsBy rfl rfl rfl hd_X6_gapsBy ⟨Nat.le_of_ble_eq_true rfl, Nat.le_of_ble_eq_true rfl⟩) (mt_X6_gapsBy l hZ σ _ x1 _ h) (rc_6 hZ hE hP kd100) hE hP hS rfl hl.1 rfl (Nat.le_of_ble_eq_true rfl) dX6_newsOf_29 ⟨Nat.zero_le _, Nat.zero_le _⟩ (fun r29 σ29 H locs h hP hS => ?_)
      exact zr_I hx hb hr hlocks hP hS h dX6_newsOf_32
    · have h := h.2 hc
      refine lv_aload_n hx hb dX6_newsOf_18 rfl (lv_at hl 0 rfl) ?_
      refine fg_6_6 hZ hx hb hts in6 hown hE hP kd100 lk26 dX6_newsOf_19 ?_
      refine lv_iload_n hx hb dX6_newsOf_22 rfl (lv_at hl 1 rfl) ?_
      obtain ⟨hin, h⟩ := h
      refine al_20 hZ hx hb hE hP kr_6_6 hin dX6_newsOf_23 ?_
      refine lv_goto (tgt := 32) hx hb dX6_newsOf_24 (by decide) ?_
      exact zr_I hx hb hr hlocks hP hS h dX6_newsOf_32
  · have h := h.2 hc
    refine lv_aload_n hx hb dX6_newsOf_4 rfl (lv_at hl 0 rfl) ?_
    refine fg_6_5 hZ hx hb hts in6 hown hE hP kd100 lk23 dX6_newsOf_5 ?_
    refine lv_iload_n hx hb dX6_newsOf_8 rfl (lv_at hl 1 rfl) ?_
    obtain ⟨hin, h⟩ := h
    refine al_20 hZ hx hb hE hP kr_6_5 hin dX6_newsOf_9 ?_
    refine lv_goto (tgt := 32) hx hb dX6_newsOf_10 (by decide) ?_
    exact zr_I hx hb hr hlocks hP hS h dX6_newsOf_32
theorem hd_X6_hasNews : yX6_hasNews.cls = RX6 ∧ yX6_hasNews.cls ≠ "java/lang/invoke/MethodHandle" ∧ yX6_hasNews.cls ≠ "java/lang/invoke/VarHandle" ∧ (parseMethodDescriptor yX6_hasNews.desc).map (fun d => d.parameters.length) = some 1 := by decide +kernel
set_option maxHeartbeats 4000000 in
set_option maxRecDepth 100000 in
theorem mt_X6_hasNews (l : Launch) {Z : ZW} (hZ : isM Z) (σ : SS) (sz : Nat) (x1 : Int32) (K : SS → Int32 → Prop) (h : wp_X6_hasNews σ x1 K) : mtZ l yX6_hasNews wsX6_hasNews (rm9 4 86) Z [.ref (zq Z 100), .int x1] σ sz (qcI Z K sz) := by
  refine Met.ofW (cc := cX6_hasNews) (maxL := 2) (ret := (some .boolean)) (by decide) rfl ?_
  intro p e s m args below meth c s₁ B hml hv
  obtain ⟨hargs, hsz, hP, hE1, hE2, hE3⟩ := hv
  subst hsz
  have hE : envZ Z s := ⟨hE1, hE2, hE3⟩
  have hx := B.exec
  have hb := B.bytes
  have hr := B.returns
  have hlocks := B.notSynchronized
  have hts := atoms_spec (ws := wsX6_hasNews) B.pre
  have hown : s.vm.findClass RX6 = some m.cls := findClass_of_methodNamed B.named
  have hS : SZ Z s s.heap [] := va_S.rf
  obtain ⟨ls, hef, hl⟩ := z_entry m hargs (n := 2) (Nat.le_of_ble_eq_true rfl)
  rw [hef]
  have hl : lv_has ls 2 [(0, .ref (zq Z 100)), (1, .int x1)] := hl
  have in6 : ∀ w ∈ u_ws RX6 TX6 28, w ∈ wsX6_hasNews := by decide +kernel
  have lk107 := hts (.fieldLink RX6 107 "BeatDoubtsModel" "newsMany" "I") (by decide +kernel)
  unfold wp_X6_hasNews at h
  refine lv_aload_n hx hb dX6_hasNews_0 rfl (lv_at hl 0 rfl) ?_
  refine zc_VV (As := []) (rest := []) ⟨hx, hb, hml, hown, hts⟩ (cwV 0 hts gX6_hasNews_X6_findsNews rfl rfl rfl hd_X6_findsNews ⟨Nat.le_of_ble_eq_true rfl, Nat.le_of_ble_eq_true rfl⟩) (mt_X6_findsNews l hZ σ _  _ h) (rc_6 hZ hE hP kd100) hE hP hS rfl hl.1 rfl (Nat.le_of_ble_eq_true rfl) dX6_hasNews_1 ⟨Nat.zero_le _, Nat.zero_le _⟩ (fun σ1 H locs h hP hS => ?_)
  refine lv_iload_n hx hb dX6_hasNews_4 rfl (lv_at hl 1 rfl) ?_
  refine lv_iconst (v := 0) hx hb dX6_hasNews_5 (by decide) ?_
  refine lv_aload_n hx hb dX6_hasNews_6 rfl (lv_at hl 0 rfl) ?_
  refine fg_6_7 hZ hx hb hts in6 hown hE hP kd100 lk107 dX6_hasNews_7 ?_
  refine lv_iconst (v := 1) hx hb dX6_hasNews_10 (by decide) ?_
  refine lv_isub hx hb dX6_hasNews_11 ?_
  refine zc_SI (As := [.int x1, .int 0, .int ((gI σ1 100 7) - 1)]) (rest := []) ⟨hx, hb, hml, hown, hts⟩ (va_cwS 3 hts gX6_hasNews_X6_in rfl rfl rfl hd_X6_in ⟨Nat.le_of_ble_eq_true rfl, Nat.le_of_ble_eq_true rfl⟩) (mt_X6_in l hZ σ1 _ x1 0 ((gI σ1 100 7) - 1) _ h) hE hP hS rfl hl.1 rfl (Nat.le_of_ble_eq_true rfl) dX6_hasNews_12 ⟨Nat.zero_le _, Nat.zero_le _⟩ (fun r12 σ12 H locs h hP hS => ?_)
  exact zr_Z hx hb hr hlocks hP hS h.1 h.2 dX6_hasNews_15
theorem hd_X6_news : yX6_news.cls = RX6 ∧ yX6_news.cls ≠ "java/lang/invoke/MethodHandle" ∧ yX6_news.cls ≠ "java/lang/invoke/VarHandle" ∧ (parseMethodDescriptor yX6_news.desc).map (fun d => d.parameters.length) = some 2 := by decide +kernel
set_option maxHeartbeats 4000000 in
set_option maxRecDepth 100000 in
theorem mt_X6_news (l : Launch) {Z : ZW} (hZ : isM Z) (σ : SS) (sz : Nat) (x1 : Int32) (x2 : Int32) (K : SS → Int32 → Prop) (h : wp_X6_news σ x1 x2 K) : mtZ l yX6_news wsX6_news (rm9 5 107) Z [.ref (zq Z 100), .int x1, .int x2] σ sz (qcI Z K sz) := by
  refine Met.ofW (cc := cX6_news) (maxL := 3) (ret := (some .int)) (by decide) rfl ?_
  intro p e s m args below meth c s₁ B hml hv
  obtain ⟨hargs, hsz, hP, hE1, hE2, hE3⟩ := hv
  subst hsz
  have hE : envZ Z s := ⟨hE1, hE2, hE3⟩
  have hx := B.exec
  have hb := B.bytes
  have hr := B.returns
  have hlocks := B.notSynchronized
  have hts := atoms_spec (ws := wsX6_news) B.pre
  have hown : s.vm.findClass RX6 = some m.cls := findClass_of_methodNamed B.named
  have hS : SZ Z s s.heap [] := va_S.rf
  obtain ⟨ls, hef, hl⟩ := z_entry m hargs (n := 3) (Nat.le_of_ble_eq_true rfl)
  rw [hef]
  have hl : lv_has ls 3 [(0, .ref (zq Z 100)), (1, .int x1), (2, .int x2)] := hl
  unfold wp_X6_news at h
  refine lv_aload_n hx hb dX6_news_0 rfl (lv_at hl 0 rfl) ?_
  refine lv_iload_n hx hb dX6_news_1 rfl (lv_at hl 1 rfl) ?_
  refine zc_VI (As := [.int x1]) (rest := []) ⟨hx, hb, hml, hown, hts⟩ (cwV 1 hts gX6_news_X6_hasNews rfl rfl rfl hd_X6_hasNews ⟨Nat.le_of_ble_eq_true rfl, Nat.le_of_ble_eq_true rfl⟩) (mt_X6_hasNews l hZ σ _ x1 _ h) (rc_6 hZ hE hP kd100) hE hP hS rfl hl.1 rfl (Nat.le_of_ble_eq_true rfl) dX6_news_2 ⟨Nat.zero_le _, Nat.zero_le _⟩ (fun r2 σ2 H locs h hP hS => ?_)
  refine lv_if_eq (tgt := 26) hx hb dX6_news_5 (by decide) (fun hc => ?_) (fun hc => ?_)
  · have h := h.1 hc
    refine lv_bipush (v := (-2)) hx hb dX6_news_26 (by decide) ?_
    exact zr_I hx hb hr hlocks hP hS h dX6_news_28
  · have h := h.2 hc
    refine lv_iload_n hx hb dX6_news_8 rfl (lv_at hl 2 rfl) ?_
    refine lv_iconst (v := 0) hx hb dX6_news_9 (by decide) ?_
    refine lv_iconst (v := 2) hx hb dX6_news_10 (by decide) ?_
    refine zc_SI (As := [.int x2, .int 0, .int 2]) (rest := []) ⟨hx, hb, hml, hown, hts⟩ (va_cwS 3 hts gX6_news_X6_in rfl rfl rfl hd_X6_in ⟨Nat.le_of_ble_eq_true rfl, Nat.le_of_ble_eq_true rfl⟩) (mt_X6_in l hZ σ2 _ x2 0 2 _ h) hE hP hS rfl hl.1 rfl (Nat.le_of_ble_eq_true rfl) dX6_news_11 ⟨Nat.zero_le _, Nat.zero_le _⟩ (fun r11 σ11 H locs h hP hS => ?_)
    refine lv_if_eq (tgt := 26) hx hb dX6_news_14 (by decide) (fun hc => ?_) (fun hc => ?_)
    · have h := h.1 hc
      refine lv_bipush (v := (-2)) hx hb dX6_news_26 (by decide) ?_
      exact zr_I hx hb hr hlocks hP hS h dX6_news_28
    · have h := h.2 hc
      refine lv_aload_n hx hb dX6_news_17 rfl (lv_at hl 0 rfl) ?_
      refine lv_iload_n hx hb dX6_news_18 rfl (lv_at hl 1 rfl) ?_
      refine lv_iload_n hx hb dX6_news_19 rfl (lv_at hl 2 rfl) ?_
      refine zc_VI (As := [.int x1, .int x2]) (rest := []) ⟨hx, hb, hml, hown, hts⟩ (cwV 2 hts gX6_news_X6_newsOf rfl rfl rfl hd_X6_newsOf ⟨Nat.le_of_ble_eq_true rfl, Nat.le_of_ble_eq_true rfl⟩) (mt_X6_newsOf l hZ σ11 _ x1 x2 _ h) (rc_6 hZ hE hP kd100) hE hP hS rfl hl.1 rfl (Nat.le_of_ble_eq_true rfl) dX6_news_20 ⟨Nat.zero_le _, Nat.zero_le _⟩ (fun r20 σ20 H locs h hP hS => ?_)
      refine lv_goto (tgt := 28) hx hb dX6_news_23 (by decide) ?_
      exact zr_I hx hb hr hlocks hP hS h dX6_news_28
theorem hd_X6_belowBy : yX6_belowBy.cls = RX6 ∧ yX6_belowBy.cls ≠ "java/lang/invoke/MethodHandle" ∧ yX6_belowBy.cls ≠ "java/lang/invoke/VarHandle" ∧ (parseMethodDescriptor yX6_belowBy.desc).map (fun d => d.parameters.length) = some 1 := by decide +kernel
set_option maxHeartbeats 4000000 in
set_option maxRecDepth 100000 in
theorem mt_X6_belowBy (l : Launch) {Z : ZW} (hZ : isM Z) (σ : SS) (sz : Nat) (x1 : Int32) (K : SS → Int32 → Prop) (h : wp_X6_belowBy σ x1 K) : mtZ l yX6_belowBy wsX6_belowBy (rm9 0 0) Z [.ref (zq Z 100), .int x1] σ sz (qcI Z K sz) := by
  refine Met.ofW (cc := cX6_belowBy) (maxL := 2) (ret := (some .int)) (by decide) rfl ?_
  intro p e s m args below meth c s₁ B hml hv
  obtain ⟨hargs, hsz, hP, hE1, hE2, hE3⟩ := hv
  subst hsz
  have hE : envZ Z s := ⟨hE1, hE2, hE3⟩
  have hx := B.exec
  have hb := B.bytes
  have hr := B.returns
  have hlocks := B.notSynchronized
  have hts := atoms_spec (ws := wsX6_belowBy) B.pre
  have hown : s.vm.findClass RX6 = some m.cls := findClass_of_methodNamed B.named
  have hS : SZ Z s s.heap [] := va_S.rf
  obtain ⟨ls, hef, hl⟩ := z_entry m hargs (n := 2) (Nat.le_of_ble_eq_true rfl)
  rw [hef]
  have hl : lv_has ls 2 [(0, .ref (zq Z 100)), (1, .int x1)] := hl
  have in6 : ∀ w ∈ u_ws RX6 TX6 28, w ∈ wsX6_belowBy := by decide +kernel
  have lk17 := hts (.fieldLink RX6 17 "BeatDoubtsModel" "windowNow" "I") (by decide +kernel)
  unfold wp_X6_belowBy at h
  refine lv_iload_n hx hb dX6_belowBy_0 rfl (lv_at hl 1 rfl) ?_
  refine lv_iconst (v := 1) hx hb dX6_belowBy_1 (by decide) ?_
  refine lv_iadd hx hb dX6_belowBy_2 ?_
  refine lv_aload_n hx hb dX6_belowBy_3 rfl (lv_at hl 0 rfl) ?_
  refine fg_6_3 hZ hx hb hts in6 hown hE hP kd100 lk17 dX6_belowBy_4 ?_
  refine lv_icmp_ge (tgt := 16) hx hb dX6_belowBy_7 (by decide) (fun hc => ?_) (fun hc => ?_)
  · have h := h.1 hc
    refine lv_aload_n hx hb dX6_belowBy_16 rfl (lv_at hl 0 rfl) ?_
    refine fg_6_3 hZ hx hb hts in6 hown hE hP kd100 lk17 dX6_belowBy_17 ?_
    exact zr_I hx hb hr hlocks hP hS h dX6_belowBy_20
  · have h := h.2 hc
    refine lv_iload_n hx hb dX6_belowBy_10 rfl (lv_at hl 1 rfl) ?_
    refine lv_iconst (v := 1) hx hb dX6_belowBy_11 (by decide) ?_
    refine lv_iadd hx hb dX6_belowBy_12 ?_
    refine lv_goto (tgt := 20) hx hb dX6_belowBy_13 (by decide) ?_
    exact zr_I hx hb hr hlocks hP hS h dX6_belowBy_20
theorem hd_X6_aboveBy : yX6_aboveBy.cls = RX6 ∧ yX6_aboveBy.cls ≠ "java/lang/invoke/MethodHandle" ∧ yX6_aboveBy.cls ≠ "java/lang/invoke/VarHandle" ∧ (parseMethodDescriptor yX6_aboveBy.desc).map (fun d => d.parameters.length) = some 1 := by decide +kernel
set_option maxHeartbeats 4000000 in
set_option maxRecDepth 100000 in
theorem mt_X6_aboveBy (l : Launch) {Z : ZW} (hZ : isM Z) (σ : SS) (sz : Nat) (x1 : Int32) (K : SS → Int32 → Prop) (h : wp_X6_aboveBy σ x1 K) : mtZ l yX6_aboveBy wsX6_aboveBy (rm9 1 21) Z [.ref (zq Z 100), .int x1] σ sz (qcI Z K sz) := by
  refine Met.ofW (cc := cX6_aboveBy) (maxL := 5) (ret := (some .int)) (by decide) rfl ?_
  intro p e s m args below meth c s₁ B hml hv
  obtain ⟨hargs, hsz, hP, hE1, hE2, hE3⟩ := hv
  subst hsz
  have hE : envZ Z s := ⟨hE1, hE2, hE3⟩
  have hx := B.exec
  have hb := B.bytes
  have hr := B.returns
  have hlocks := B.notSynchronized
  have hts := atoms_spec (ws := wsX6_aboveBy) B.pre
  have hown : s.vm.findClass RX6 = some m.cls := findClass_of_methodNamed B.named
  have hS : SZ Z s s.heap [] := va_S.rf
  obtain ⟨ls, hef, hl⟩ := z_entry m hargs (n := 5) (Nat.le_of_ble_eq_true rfl)
  rw [hef]
  have hl : lv_has ls 5 [(0, .ref (zq Z 100)), (1, .int x1)] := hl
  have in6 : ∀ w ∈ u_ws RX6 TX6 28, w ∈ wsX6_aboveBy := by decide +kernel
  have lk13 := hts (.fieldLink RX6 13 "BeatDoubtsModel" "periodNow" "I") (by decide +kernel)
  have lk23 := hts (.fieldLink RX6 23 "BeatDoubtsModel" "newsBeats" "[I") (by decide +kernel)
  have lk26 := hts (.fieldLink RX6 26 "BeatDoubtsModel" "newsTimes" "[I") (by decide +kernel)
  have B25 : ∀ (n : Nat) (σ : SS) (x1 : Int32) (x2 : Int32) (x3 : Int32) (x4 : Int32) (H : Heap) (locs : List Loc) (ls : Array Slot), fx5 (lb_X6_aboveBy_25 K) n σ x1 x2 x3 x4 → PZ Z σ H → SZ Z s H locs → lv_has ls 5 [(0, .ref (zq Z 100)), (1, .int x1), (2, .int x2), (3, .int x3), (4, .int x4)] → W p l e (headSpec wsX6_aboveBy (rm9 1 21)).room s m args below meth c H locs 0 0 (MQ below (qcI Z K s.heap.size) args s 0 0 (aZ Z s.heap.size)) (F0 m 25 ls []) := by
    intro n25
    induction n25 with
    | zero => intro σ x1 x2 x3 x4 H locs ls h; exact h.elim
    | succ n25 ih25 =>
      intro σ x1 x2 x3 x4 H locs ls h hP hS hl
      have h : lb_X6_aboveBy_25 K (fx5 (lb_X6_aboveBy_25 K) n25) σ x1 x2 x3 x4 := h
      unfold lb_X6_aboveBy_25 at h
      refine lv_iload hx hb dX6_aboveBy_25 (lv_at hl 4 rfl) ?_
      refine lv_iload_n hx hb dX6_aboveBy_27 rfl (lv_at hl 2 rfl) ?_
      refine lv_icmp_ge (tgt := 64) hx hb dX6_aboveBy_28 (by decide) (fun hc => ?_) (fun hc => ?_)
      · have h := h.1 hc
        refine lv_iload_n hx hb dX6_aboveBy_64 rfl (lv_at hl 3 rfl) ?_
        exact zr_I hx hb hr hlocks hP hS h dX6_aboveBy_65
      · have h := h.2 hc
        refine lv_iload_n hx hb dX6_aboveBy_31 rfl (lv_at hl 3 rfl) ?_
        refine lv_aload_n hx hb dX6_aboveBy_32 rfl (lv_at hl 0 rfl) ?_
        refine fg_6_6 hZ hx hb hts in6 hown hE hP kd100 lk26 dX6_aboveBy_33 ?_
        refine lv_iload_n hx hb dX6_aboveBy_36 rfl (lv_at hl 1 rfl) ?_
        refine lv_iload hx hb dX6_aboveBy_37 (lv_at hl 4 rfl) ?_
        refine lv_isub hx hb dX6_aboveBy_39 ?_
        obtain ⟨hin, h⟩ := h
        refine al_20 hZ hx hb hE hP kr_6_6 hin dX6_aboveBy_40 ?_
        refine lv_aload_n hx hb dX6_aboveBy_41 rfl (lv_at hl 0 rfl) ?_
        refine fg_6_2 hZ hx hb hts in6 hown hE hP kd100 lk13 dX6_aboveBy_42 ?_
        refine lv_aload_n hx hb dX6_aboveBy_45 rfl (lv_at hl 0 rfl) ?_
        refine fg_6_5 hZ hx hb hts in6 hown hE hP kd100 lk23 dX6_aboveBy_46 ?_
        refine lv_iload_n hx hb dX6_aboveBy_49 rfl (lv_at hl 1 rfl) ?_
        refine lv_iload hx hb dX6_aboveBy_50 (lv_at hl 4 rfl) ?_
        refine lv_isub hx hb dX6_aboveBy_52 ?_
        obtain ⟨hin, h⟩ := h
        refine al_20 hZ hx hb hE hP kr_6_5 hin dX6_aboveBy_53 ?_
        refine lv_imul hx hb dX6_aboveBy_54 ?_
        refine lv_isub hx hb dX6_aboveBy_55 ?_
        refine lv_iadd hx hb dX6_aboveBy_56 ?_
        refine lv_istore_n (lv' := [(3, .int (x3 + ((gA σ 103 (x1 - x4).toNatClampNeg) - ((gI σ 100 2) * (gA σ 102 (x1 - x4).toNatClampNeg))))), (0, .ref (zq Z 100)), (1, .int x1), (2, .int x2), (4, .int x4)]) hx hb dX6_aboveBy_57 rfl hl (by decide) rfl (fun ls hl => ?_)
        refine lv_iinc (v := (x4 + 1)) (lv' := [(4, .int (x4 + 1)), (3, .int (x3 + ((gA σ 103 (x1 - x4).toNatClampNeg) - ((gI σ 100 2) * (gA σ 102 (x1 - x4).toNatClampNeg))))), (0, .ref (zq Z 100)), (1, .int x1), (2, .int x2)]) hx hb dX6_aboveBy_58 hl (k := 4) rfl rfl (by decide) rfl (fun ls hl => ?_)
        refine lv_goto (tgt := 25) hx hb dX6_aboveBy_61 (by decide) ?_
        exact ih25 σ x1 x2 (x3 + ((gA σ 103 (x1 - x4).toNatClampNeg) - ((gI σ 100 2) * (gA σ 102 (x1 - x4).toNatClampNeg)))) (x4 + 1) _ _ _ h hP hS (lv_sub hl [2, 3, 4, 1, 0] rfl)
  unfold wp_X6_aboveBy at h
  refine lv_aload_n hx hb dX6_aboveBy_0 rfl (lv_at hl 0 rfl) ?_
  refine lv_iload_n hx hb dX6_aboveBy_1 rfl (lv_at hl 1 rfl) ?_
  refine zc_VI (As := [.int x1]) (rest := []) ⟨hx, hb, hml, hown, hts⟩ (cwV 1 hts gX6_aboveBy_X6_belowBy rfl rfl rfl hd_X6_belowBy ⟨Nat.le_of_ble_eq_true rfl, Nat.le_of_ble_eq_true rfl⟩) (mt_X6_belowBy l hZ σ _ x1 _ h) (rc_6 hZ hE hP kd100) hE hP hS rfl hl.1 rfl (Nat.le_of_ble_eq_true rfl) dX6_aboveBy_2 ⟨Nat.zero_le _, Nat.zero_le _⟩ (fun r2 σ2 H locs h hP hS => ?_)
  refine lv_istore_n (lv' := [(2, .int r2), (0, .ref (zq Z 100)), (1, .int x1)]) hx hb dX6_aboveBy_5 rfl hl (by decide) rfl (fun ls hl => ?_)
  refine lv_iload_n hx hb dX6_aboveBy_6 rfl (lv_at hl 0 rfl) ?_
  refine lv_aload_n hx hb dX6_aboveBy_7 rfl (lv_at hl 1 rfl) ?_
  refine fg_6_2 hZ hx hb hts in6 hown hE hP kd100 lk13 dX6_aboveBy_8 ?_
  refine lv_imul hx hb dX6_aboveBy_11 ?_
  refine lv_aload_n hx hb dX6_aboveBy_12 rfl (lv_at hl 1 rfl) ?_
  refine fg_6_5 hZ hx hb hts in6 hown hE hP kd100 lk23 dX6_aboveBy_13 ?_
  refine lv_iload_n hx hb dX6_aboveBy_16 rfl (lv_at hl 2 rfl) ?_
  obtain ⟨hin, h⟩ := h
  refine al_20 hZ hx hb hE hP kr_6_5 hin dX6_aboveBy_17 ?_
  refine lv_iconst (v := 1) hx hb dX6_aboveBy_18 (by decide) ?_
  refine lv_iadd hx hb dX6_aboveBy_19 ?_
  refine lv_imul hx hb dX6_aboveBy_20 ?_
  refine lv_istore_n (lv' := [(3, .int ((r2 * (gI σ2 100 2)) * ((gA σ2 102 x1.toNatClampNeg) + 1))), (2, .int r2), (0, .ref (zq Z 100)), (1, .int x1)]) hx hb dX6_aboveBy_21 rfl hl (by decide) rfl (fun ls hl => ?_)
  refine lv_iconst (v := 0) hx hb dX6_aboveBy_22 (by decide) ?_
  refine lv_istore (lv' := [(4, .int 0), (3, .int ((r2 * (gI σ2 100 2)) * ((gA σ2 102 x1.toNatClampNeg) + 1))), (2, .int r2), (0, .ref (zq Z 100)), (1, .int x1)]) hx hb dX6_aboveBy_23 hl (by decide) rfl (fun ls hl => ?_)
  obtain ⟨n, h⟩ := h
  exact B25 n σ2 x1 r2 ((r2 * (gI σ2 100 2)) * ((gA σ2 102 x1.toNatClampNeg) + 1)) 0 _ _ _ h hP hS (lv_sub hl [3, 4, 2, 1, 0] rfl)
theorem hd_X6_expected : yX6_expected.cls = RX6 ∧ yX6_expected.cls ≠ "java/lang/invoke/MethodHandle" ∧ yX6_expected.cls ≠ "java/lang/invoke/VarHandle" ∧ (parseMethodDescriptor yX6_expected.desc).map (fun d => d.parameters.length) = some 2 := by decide +kernel
set_option maxHeartbeats 4000000 in
set_option maxRecDepth 100000 in
theorem mt_X6_expected (l : Launch) {Z : ZW} (hZ : isM Z) (σ : SS) (sz : Nat) (x1 : Int32) (x2 : Int32) (K : SS → Int64 → Prop) (h : wp_X6_expected σ x1 x2 K) : mtZ l yX6_expected wsX6_expected (rm9 5 107) Z [.ref (zq Z 100), .int x1, .int x2] σ sz (qcL Z K sz) := by
  refine Met.ofW (cc := cX6_expected) (maxL := 3) (ret := (some .long)) (by decide) rfl ?_
  intro p e s m args below meth c s₁ B hml hv
  obtain ⟨hargs, hsz, hP, hE1, hE2, hE3⟩ := hv
  subst hsz
  have hE : envZ Z s := ⟨hE1, hE2, hE3⟩
  have hx := B.exec
  have hb := B.bytes
  have hr := B.returns
  have hlocks := B.notSynchronized
  have hts := atoms_spec (ws := wsX6_expected) B.pre
  have hown : s.vm.findClass RX6 = some m.cls := findClass_of_methodNamed B.named
  have hS : SZ Z s s.heap [] := va_S.rf
  obtain ⟨ls, hef, hl⟩ := z_entry m hargs (n := 3) (Nat.le_of_ble_eq_true rfl)
  rw [hef]
  have hl : lv_has ls 3 [(0, .ref (zq Z 100)), (1, .int x1), (2, .int x2)] := hl
  unfold wp_X6_expected at h
  refine lv_aload_n hx hb dX6_expected_0 rfl (lv_at hl 0 rfl) ?_
  refine lv_iload_n hx hb dX6_expected_1 rfl (lv_at hl 1 rfl) ?_
  refine zc_VI (As := [.int x1]) (rest := []) ⟨hx, hb, hml, hown, hts⟩ (cwV 1 hts gX6_expected_X6_hasNews rfl rfl rfl hd_X6_hasNews ⟨Nat.le_of_ble_eq_true rfl, Nat.le_of_ble_eq_true rfl⟩) (mt_X6_hasNews l hZ σ _ x1 _ h) (rc_6 hZ hE hP kd100) hE hP hS rfl hl.1 rfl (Nat.le_of_ble_eq_true rfl) dX6_expected_2 ⟨Nat.zero_le _, Nat.zero_le _⟩ (fun r2 σ2 H locs h hP hS => ?_)
  refine lv_if_eq (tgt := 36) hx hb dX6_expected_5 (by decide) (fun hc => ?_) (fun hc => ?_)
  · have h := h.1 hc
    refine lv_bipush (v := (-2)) hx hb dX6_expected_36 (by decide) ?_
    refine zc_SL (As := [.int (-2)]) (rest := []) ⟨hx, hb, hml, hown, hts⟩ (va_cwS 1 hts gX6_expected_X6_no rfl rfl rfl hd_X6_no ⟨Nat.le_of_ble_eq_true rfl, Nat.le_of_ble_eq_true rfl⟩) (mt_X6_no l hZ σ2 _ (-2) _ h) hE hP hS rfl hl.1 rfl (Nat.le_of_ble_eq_true rfl) dX6_expected_38 ⟨Nat.zero_le _, Nat.zero_le _⟩ (fun r38 σ38 H locs h hP hS => ?_)
    exact zr_L hx hb hr hlocks hP hS h dX6_expected_41
  · have h := h.2 hc
    refine lv_iload_n hx hb dX6_expected_8 rfl (lv_at hl 2 rfl) ?_
    refine lv_iconst (v := 0) hx hb dX6_expected_9 (by decide) ?_
    refine lv_iconst (v := 1) hx hb dX6_expected_10 (by decide) ?_
    refine zc_SI (As := [.int x2, .int 0, .int 1]) (rest := []) ⟨hx, hb, hml, hown, hts⟩ (va_cwS 3 hts gX6_expected_X6_in rfl rfl rfl hd_X6_in ⟨Nat.le_of_ble_eq_true rfl, Nat.le_of_ble_eq_true rfl⟩) (mt_X6_in l hZ σ2 _ x2 0 1 _ h) hE hP hS rfl hl.1 rfl (Nat.le_of_ble_eq_true rfl) dX6_expected_11 ⟨Nat.zero_le _, Nat.zero_le _⟩ (fun r11 σ11 H locs h hP hS => ?_)
    refine lv_if_eq (tgt := 36) hx hb dX6_expected_14 (by decide) (fun hc => ?_) (fun hc => ?_)
    · have h := h.1 hc
      refine lv_bipush (v := (-2)) hx hb dX6_expected_36 (by decide) ?_
      refine zc_SL (As := [.int (-2)]) (rest := []) ⟨hx, hb, hml, hown, hts⟩ (va_cwS 1 hts gX6_expected_X6_no rfl rfl rfl hd_X6_no ⟨Nat.le_of_ble_eq_true rfl, Nat.le_of_ble_eq_true rfl⟩) (mt_X6_no l hZ σ11 _ (-2) _ h) hE hP hS rfl hl.1 rfl (Nat.le_of_ble_eq_true rfl) dX6_expected_38 ⟨Nat.zero_le _, Nat.zero_le _⟩ (fun r38 σ38 H locs h hP hS => ?_)
      exact zr_L hx hb hr hlocks hP hS h dX6_expected_41
    · have h := h.2 hc
      refine lv_aload_n hx hb dX6_expected_17 rfl (lv_at hl 0 rfl) ?_
      refine lv_iload_n hx hb dX6_expected_18 rfl (lv_at hl 1 rfl) ?_
      refine zc_VI (As := [.int x1]) (rest := []) ⟨hx, hb, hml, hown, hts⟩ (cwV 1 hts gX6_expected_X6_aboveBy rfl rfl rfl hd_X6_aboveBy ⟨Nat.le_of_ble_eq_true rfl, Nat.le_of_ble_eq_true rfl⟩) (mt_X6_aboveBy l hZ σ11 _ x1 _ h) (rc_6 hZ hE hP kd100) hE hP hS rfl hl.1 rfl (Nat.le_of_ble_eq_true rfl) dX6_expected_19 ⟨Nat.zero_le _, Nat.zero_le _⟩ (fun r19 σ19 H locs h hP hS => ?_)
      refine lv_i2l hx hb dX6_expected_22 rfl ?_
      refine lv_aload_n hx hb dX6_expected_23 rfl (lv_at hl 0 rfl) ?_
      refine lv_iload_n hx hb dX6_expected_24 rfl (lv_at hl 1 rfl) ?_
      refine zc_VI (As := [.int x1]) (rest := [.long r19.toInt64]) ⟨hx, hb, hml, hown, hts⟩ (cwV 1 hts gX6_expected_X6_belowBy rfl rfl rfl hd_X6_belowBy ⟨Nat.le_of_ble_eq_true rfl, Nat.le_of_ble_eq_true rfl⟩) (mt_X6_belowBy l hZ σ19 _ x1 _ h) (rc_6 hZ hE hP kd100) hE hP hS rfl hl.1 rfl (Nat.le_of_ble_eq_true rfl) dX6_expected_25 ⟨Nat.zero_le _, Nat.zero_le _⟩ (fun r25 σ25 H locs h hP hS => ?_)
      refine lv_i2l hx hb dX6_expected_28 rfl ?_
      refine lv_iload_n hx hb dX6_expected_29 rfl (lv_at hl 2 rfl) ?_
      refine zc_SL (As := [.long r19.toInt64, .long r25.toInt64, .int x2]) (rest := []) ⟨hx, hb, hml, hown, hts⟩ (va_cwS 3 hts gX6_expected_X6_partOf rfl rfl rfl hd_X6_partOf ⟨Nat.le_of_ble_eq_true rfl, Nat.le_of_ble_eq_true rfl⟩) (mt_X6_partOf l hZ σ25 _ r19.toInt64 r25.toInt64 x2 _ h) hE hP hS rfl hl.1 rfl (Nat.le_of_ble_eq_true rfl) dX6_expected_30 ⟨Nat.zero_le _, Nat.zero_le _⟩ (fun r30 σ30 H locs h hP hS => ?_)
      refine lv_goto (tgt := 41) hx hb dX6_expected_33 (by decide) ?_
      exact zr_L hx hb hr hlocks hP hS h dX6_expected_41
theorem hd_X6_lessThan : yX6_lessThan.cls = RX6 ∧ yX6_lessThan.cls ≠ "java/lang/invoke/MethodHandle" ∧ yX6_lessThan.cls ≠ "java/lang/invoke/VarHandle" ∧ (parseMethodDescriptor yX6_lessThan.desc).map (fun d => d.parameters.length) = some 2 := by decide +kernel
set_option maxHeartbeats 4000000 in
set_option maxRecDepth 100000 in
theorem mt_X6_lessThan (l : Launch) {Z : ZW} (hZ : isM Z) (σ : SS) (sz : Nat) (x1 : Int32) (x2 : Int32) (K : SS → Int32 → Prop) (h : wp_X6_lessThan σ x1 x2 K) : mtZ l yX6_lessThan wsX6_lessThan (rm9 1 22) Z [.ref (zq Z 100), .int x1, .int x2] σ sz (qcI Z K sz) := by
  refine Met.ofW (cc := cX6_lessThan) (maxL := 5) (ret := (some .int)) (by decide) rfl ?_
  intro p e s m args below meth c s₁ B hml hv
  obtain ⟨hargs, hsz, hP, hE1, hE2, hE3⟩ := hv
  subst hsz
  have hE : envZ Z s := ⟨hE1, hE2, hE3⟩
  have hx := B.exec
  have hb := B.bytes
  have hr := B.returns
  have hlocks := B.notSynchronized
  have hts := atoms_spec (ws := wsX6_lessThan) B.pre
  have hown : s.vm.findClass RX6 = some m.cls := findClass_of_methodNamed B.named
  have hS : SZ Z s s.heap [] := va_S.rf
  obtain ⟨ls, hef, hl⟩ := z_entry m hargs (n := 5) (Nat.le_of_ble_eq_true rfl)
  rw [hef]
  have hl : lv_has ls 5 [(0, .ref (zq Z 100)), (1, .int x1), (2, .int x2)] := hl
  have B5 : ∀ (n : Nat) (σ : SS) (x1 : Int32) (x2 : Int32) (x3 : Int32) (x4 : Int32) (H : Heap) (locs : List Loc) (ls : Array Slot), fx5 (lb_X6_lessThan_5 K) n σ x1 x2 x3 x4 → PZ Z σ H → SZ Z s H locs → lv_has ls 5 [(0, .ref (zq Z 100)), (1, .int x1), (2, .int x2), (3, .int x3), (4, .int x4)] → W p l e (headSpec wsX6_lessThan (rm9 1 22)).room s m args below meth c H locs 0 0 (MQ below (qcI Z K s.heap.size) args s 0 0 (aZ Z s.heap.size)) (F0 m 5 ls []) := by
    intro n5
    induction n5 with
    | zero => intro σ x1 x2 x3 x4 H locs ls h; exact h.elim
    | succ n5 ih5 =>
      intro σ x1 x2 x3 x4 H locs ls h hP hS hl
      have h : lb_X6_lessThan_5 K (fx5 (lb_X6_lessThan_5 K) n5) σ x1 x2 x3 x4 := h
      unfold lb_X6_lessThan_5 at h
      refine lv_iload hx hb dX6_lessThan_5 (lv_at hl 4 rfl) ?_
      refine lv_aload_n hx hb dX6_lessThan_7 rfl (lv_at hl 0 rfl) ?_
      refine lv_iload_n hx hb dX6_lessThan_8 rfl (lv_at hl 1 rfl) ?_
      refine zc_VI (As := [.int x1]) (rest := [.int x4]) ⟨hx, hb, hml, hown, hts⟩ (cwV 1 hts gX6_lessThan_X6_gapsBy rfl rfl rfl hd_X6_gapsBy ⟨Nat.le_of_ble_eq_true rfl, Nat.le_of_ble_eq_true rfl⟩) (mt_X6_gapsBy l hZ σ _ x1 _ h) (rc_6 hZ hE hP kd100) hE hP hS rfl hl.1 rfl (Nat.le_of_ble_eq_true rfl) dX6_lessThan_9 ⟨Nat.zero_le _, Nat.zero_le _⟩ (fun r9 σ9 H locs h hP hS => ?_)
      refine lv_icmp_ge (tgt := 40) hx hb dX6_lessThan_12 (by decide) (fun hc => ?_) (fun hc => ?_)
      · have h := h.1 hc
        refine lv_iload_n hx hb dX6_lessThan_40 rfl (lv_at hl 3 rfl) ?_
        exact zr_I hx hb hr hlocks hP hS h dX6_lessThan_41
      · have h := h.2 hc
        refine lv_iload_n hx hb dX6_lessThan_15 rfl (lv_at hl 3 rfl) ?_
        refine lv_aload_n hx hb dX6_lessThan_16 rfl (lv_at hl 0 rfl) ?_
        refine lv_iload_n hx hb dX6_lessThan_17 rfl (lv_at hl 1 rfl) ?_
        refine lv_iload hx hb dX6_lessThan_18 (lv_at hl 4 rfl) ?_
        refine zc_VI (As := [.int x1, .int x4]) (rest := [.int x3]) ⟨hx, hb, hml, hown, hts⟩ (cwV 2 hts gX6_lessThan_X6_gapAt rfl rfl rfl hd_X6_gapAt ⟨Nat.le_of_ble_eq_true rfl, Nat.le_of_ble_eq_true rfl⟩) (mt_X6_gapAt l hZ σ9 _ x1 x4 _ h) (rc_6 hZ hE hP kd100) hE hP hS rfl hl.1 rfl (Nat.le_of_ble_eq_true rfl) dX6_lessThan_20 ⟨Nat.zero_le _, Nat.zero_le _⟩ (fun r20 σ20 H locs h hP hS => ?_)
        refine lv_iload_n hx hb dX6_lessThan_23 rfl (lv_at hl 2 rfl) ?_
        refine lv_icmp_ge (tgt := 31) hx hb dX6_lessThan_24 (by decide) (fun hc => ?_) (fun hc => ?_)
        · have h := h.1 hc
          refine lv_iconst (v := 0) hx hb dX6_lessThan_31 (by decide) ?_
          refine lv_iadd hx hb dX6_lessThan_32 ?_
          refine lv_istore_n (lv' := [(3, .int (x3 + 0)), (0, .ref (zq Z 100)), (1, .int x1), (2, .int x2), (4, .int x4)]) hx hb dX6_lessThan_33 rfl hl (by decide) rfl (fun ls hl => ?_)
          refine lv_iinc (v := (x4 + 1)) (lv' := [(4, .int (x4 + 1)), (3, .int (x3 + 0)), (0, .ref (zq Z 100)), (1, .int x1), (2, .int x2)]) hx hb dX6_lessThan_34 hl (k := 4) rfl rfl (by decide) rfl (fun ls hl => ?_)
          refine lv_goto (tgt := 5) hx hb dX6_lessThan_37 (by decide) ?_
          exact ih5 σ20 x1 x2 (x3 + 0) (x4 + 1) _ _ _ h hP hS (lv_sub hl [2, 3, 4, 1, 0] rfl)
        · have h := h.2 hc
          refine lv_iconst (v := 1) hx hb dX6_lessThan_27 (by decide) ?_
          refine lv_goto (tgt := 32) hx hb dX6_lessThan_28 (by decide) ?_
          refine lv_iadd hx hb dX6_lessThan_32 ?_
          refine lv_istore_n (lv' := [(3, .int (x3 + 1)), (0, .ref (zq Z 100)), (1, .int x1), (2, .int x2), (4, .int x4)]) hx hb dX6_lessThan_33 rfl hl (by decide) rfl (fun ls hl => ?_)
          refine lv_iinc (v := (x4 + 1)) (lv' := [(4, .int (x4 + 1)), (3, .int (x3 + 1)), (0, .ref (zq Z 100)), (1, .int x1), (2, .int x2)]) hx hb dX6_lessThan_34 hl (k := 4) rfl rfl (by decide) rfl (fun ls hl => ?_)
          refine lv_goto (tgt := 5) hx hb dX6_lessThan_37 (by decide) ?_
          exact ih5 σ20 x1 x2 (x3 + 1) (x4 + 1) _ _ _ h hP hS (lv_sub hl [2, 3, 4, 1, 0] rfl)
  unfold wp_X6_lessThan at h
  refine lv_iconst (v := 0) hx hb dX6_lessThan_0 (by decide) ?_
  refine lv_istore_n (lv' := [(3, .int 0), (0, .ref (zq Z 100)), (1, .int x1), (2, .int x2)]) hx hb dX6_lessThan_1 rfl hl (by decide) rfl (fun ls hl => ?_)
  refine lv_iconst (v := 0) hx hb dX6_lessThan_2 (by decide) ?_
  refine lv_istore (lv' := [(4, .int 0), (3, .int 0), (0, .ref (zq Z 100)), (1, .int x1), (2, .int x2)]) hx hb dX6_lessThan_3 hl (by decide) rfl (fun ls hl => ?_)
  obtain ⟨n, h⟩ := h
  exact B5 n σ x1 x2 0 0 _ _ _ h hP hS (lv_sub hl [2, 3, 4, 1, 0] rfl)
theorem hd_X6_scoreOf : yX6_scoreOf.cls = RX6 ∧ yX6_scoreOf.cls ≠ "java/lang/invoke/MethodHandle" ∧ yX6_scoreOf.cls ≠ "java/lang/invoke/VarHandle" ∧ (parseMethodDescriptor yX6_scoreOf.desc).map (fun d => d.parameters.length) = some 2 := by decide +kernel
set_option maxHeartbeats 4000000 in
set_option maxRecDepth 100000 in
theorem mt_X6_scoreOf (l : Launch) {Z : ZW} (hZ : isM Z) (σ : SS) (sz : Nat) (x1 : Int32) (x2 : Int32) (K : SS → Int64 → Prop) (h : wp_X6_scoreOf σ x1 x2 K) : mtZ l yX6_scoreOf wsX6_scoreOf (rm9 4 86) Z [.ref (zq Z 100), .int x1, .int x2] σ sz (qcL Z K sz) := by
  refine Met.ofW (cc := cX6_scoreOf) (maxL := 5) (ret := (some .long)) (by decide) rfl ?_
  intro p e s m args below meth c s₁ B hml hv
  obtain ⟨hargs, hsz, hP, hE1, hE2, hE3⟩ := hv
  subst hsz
  have hE : envZ Z s := ⟨hE1, hE2, hE3⟩
  have hx := B.exec
  have hb := B.bytes
  have hr := B.returns
  have hlocks := B.notSynchronized
  have hts := atoms_spec (ws := wsX6_scoreOf) B.pre
  have hown : s.vm.findClass RX6 = some m.cls := findClass_of_methodNamed B.named
  have hS : SZ Z s s.heap [] := va_S.rf
  obtain ⟨ls, hef, hl⟩ := z_entry m hargs (n := 5) (Nat.le_of_ble_eq_true rfl)
  rw [hef]
  have hl : lv_has ls 5 [(0, .ref (zq Z 100)), (1, .int x1), (2, .int x2)] := hl
  have in6 : ∀ w ∈ u_ws RX6 TX6 28, w ∈ wsX6_scoreOf := by decide +kernel
  have lk107 := hts (.fieldLink RX6 107 "BeatDoubtsModel" "newsMany" "I") (by decide +kernel)
  have lk26 := hts (.fieldLink RX6 26 "BeatDoubtsModel" "newsTimes" "[I") (by decide +kernel)
  have B42 : ∀ (σ : SS) (x1 : Int32) (x2 : Int32) (x3 : Int32) (H : Heap) (locs : List Loc) (ls : Array Slot), bl_X6_scoreOf_42 K σ x1 x2 x3 → PZ Z σ H → SZ Z s H locs → lv_has ls 5 [(0, .ref (zq Z 100)), (1, .int x1), (2, .int x2), (3, .int x3)] → W p l e (headSpec wsX6_scoreOf (rm9 4 86)).room s m args below meth c H locs 0 0 (MQ below (qcL Z K s.heap.size) args s 0 0 (aZ Z s.heap.size)) (F0 m 42 ls []) := by
    intro σ x1 x2 x3 H locs ls h hP hS hl
    unfold bl_X6_scoreOf_42 at h
    refine lv_iload_n hx hb dX6_scoreOf_42 rfl (lv_at hl 3 rfl) ?_
    refine lv_iconst (v := 1) hx hb dX6_scoreOf_43 (by decide) ?_
    refine lv_icmp_ge (tgt := 55) hx hb dX6_scoreOf_44 (by decide) (fun hc => ?_) (fun hc => ?_)
    · have h := h.1 hc
      refine lv_aload_n hx hb dX6_scoreOf_55 rfl (lv_at hl 0 rfl) ?_
      refine lv_iload_n hx hb dX6_scoreOf_56 rfl (lv_at hl 3 rfl) ?_
      refine lv_iload_n hx hb dX6_scoreOf_57 rfl (lv_at hl 1 rfl) ?_
      refine lv_aload_n hx hb dX6_scoreOf_58 rfl (lv_at hl 0 rfl) ?_
      refine fg_6_6 hZ hx hb hts in6 hown hE hP kd100 lk26 dX6_scoreOf_59 ?_
      refine lv_iload_n hx hb dX6_scoreOf_62 rfl (lv_at hl 3 rfl) ?_
      obtain ⟨hin, h⟩ := h
      refine al_20 hZ hx hb hE hP kr_6_6 hin dX6_scoreOf_63 ?_
      refine lv_isub hx hb dX6_scoreOf_64 ?_
      refine zc_VI (As := [.int x3, .int (x1 - (gA σ 103 x3.toNatClampNeg))]) (rest := []) ⟨hx, hb, hml, hown, hts⟩ (cwV 2 hts gX6_scoreOf_X6_lessThan rfl rfl rfl hd_X6_lessThan ⟨Nat.le_of_ble_eq_true rfl, Nat.le_of_ble_eq_true rfl⟩) (mt_X6_lessThan l hZ σ _ x3 (x1 - (gA σ 103 x3.toNatClampNeg)) _ h) (rc_6 hZ hE hP kd100) hE hP hS rfl hl.1 rfl (Nat.le_of_ble_eq_true rfl) dX6_scoreOf_65 ⟨Nat.zero_le _, Nat.zero_le _⟩ (fun r65 σ65 H locs h hP hS => ?_)
      refine lv_i2l hx hb dX6_scoreOf_68 rfl ?_
      refine lv_aload_n hx hb dX6_scoreOf_69 rfl (lv_at hl 0 rfl) ?_
      refine lv_iload_n hx hb dX6_scoreOf_70 rfl (lv_at hl 3 rfl) ?_
      refine zc_VI (As := [.int x3]) (rest := [.long r65.toInt64]) ⟨hx, hb, hml, hown, hts⟩ (cwV 1 hts gX6_scoreOf_X6_gapsBy rfl rfl rfl hd_X6_gapsBy ⟨Nat.le_of_ble_eq_true rfl, Nat.le_of_ble_eq_true rfl⟩) (mt_X6_gapsBy l hZ σ65 _ x3 _ h) (rc_6 hZ hE hP kd100) hE hP hS rfl hl.1 rfl (Nat.le_of_ble_eq_true rfl) dX6_scoreOf_71 ⟨Nat.zero_le _, Nat.zero_le _⟩ (fun r71 σ71 H locs h hP hS => ?_)
      refine lv_i2l hx hb dX6_scoreOf_74 rfl ?_
      refine lv_iload_n hx hb dX6_scoreOf_75 rfl (lv_at hl 2 rfl) ?_
      refine zc_SL (As := [.long r65.toInt64, .long r71.toInt64, .int x2]) (rest := []) ⟨hx, hb, hml, hown, hts⟩ (va_cwS 3 hts gX6_scoreOf_X6_partOf rfl rfl rfl hd_X6_partOf ⟨Nat.le_of_ble_eq_true rfl, Nat.le_of_ble_eq_true rfl⟩) (mt_X6_partOf l hZ σ71 _ r65.toInt64 r71.toInt64 x2 _ h) hE hP hS rfl hl.1 rfl (Nat.le_of_ble_eq_true rfl) dX6_scoreOf_76 ⟨Nat.zero_le _, Nat.zero_le _⟩ (fun r76 σ76 H locs h hP hS => ?_)
      exact zr_L hx hb hr hlocks hP hS h dX6_scoreOf_79
    · have h := h.2 hc
      refine lv_bipush (v := (-3)) hx hb dX6_scoreOf_47 (by decide) ?_
      refine zc_SL (As := [.int (-3)]) (rest := []) ⟨hx, hb, hml, hown, hts⟩ (va_cwS 1 hts gX6_scoreOf_X6_no rfl rfl rfl hd_X6_no ⟨Nat.le_of_ble_eq_true rfl, Nat.le_of_ble_eq_true rfl⟩) (mt_X6_no l hZ σ _ (-3) _ h) hE hP hS rfl hl.1 rfl (Nat.le_of_ble_eq_true rfl) dX6_scoreOf_49 ⟨Nat.zero_le _, Nat.zero_le _⟩ (fun r49 σ49 H locs h hP hS => ?_)
      refine lv_goto (tgt := 79) hx hb dX6_scoreOf_52 (by decide) ?_
      exact zr_L hx hb hr hlocks hP hS h dX6_scoreOf_79
  have B9 : ∀ (n : Nat) (σ : SS) (x1 : Int32) (x2 : Int32) (x3 : Int32) (x4 : Int32) (H : Heap) (locs : List Loc) (ls : Array Slot), fx5 (lb_X6_scoreOf_9 K) n σ x1 x2 x3 x4 → PZ Z σ H → SZ Z s H locs → lv_has ls 5 [(0, .ref (zq Z 100)), (1, .int x1), (2, .int x2), (3, .int x3), (4, .int x4)] → W p l e (headSpec wsX6_scoreOf (rm9 4 86)).room s m args below meth c H locs 0 0 (MQ below (qcL Z K s.heap.size) args s 0 0 (aZ Z s.heap.size)) (F0 m 9 ls []) := by
    intro n9
    induction n9 with
    | zero => intro σ x1 x2 x3 x4 H locs ls h; exact h.elim
    | succ n9 ih9 =>
      intro σ x1 x2 x3 x4 H locs ls h hP hS hl
      have h : lb_X6_scoreOf_9 K (fx5 (lb_X6_scoreOf_9 K) n9) σ x1 x2 x3 x4 := h
      unfold lb_X6_scoreOf_9 at h
      refine lv_iload hx hb dX6_scoreOf_9 (lv_at hl 4 rfl) ?_
      refine lv_aload_n hx hb dX6_scoreOf_11 rfl (lv_at hl 0 rfl) ?_
      refine fg_6_7 hZ hx hb hts in6 hown hE hP kd100 lk107 dX6_scoreOf_12 ?_
      refine lv_icmp_ge (tgt := 42) hx hb dX6_scoreOf_15 (by decide) (fun hc => ?_) (fun hc => ?_)
      · have h := h.1 hc
        exact B42 σ x1 x2 x3 _ _ _ h hP hS (lv_sub hl [0, 1, 2, 3] rfl)
      · have h := h.2 hc
        refine lv_aload_n hx hb dX6_scoreOf_18 rfl (lv_at hl 0 rfl) ?_
        refine fg_6_6 hZ hx hb hts in6 hown hE hP kd100 lk26 dX6_scoreOf_19 ?_
        refine lv_iload hx hb dX6_scoreOf_22 (lv_at hl 4 rfl) ?_
        obtain ⟨hin, h⟩ := h
        refine al_20 hZ hx hb hE hP kr_6_6 hin dX6_scoreOf_24 ?_
        refine lv_iload_n hx hb dX6_scoreOf_25 rfl (lv_at hl 1 rfl) ?_
        refine lv_icmp_gt (tgt := 34) hx hb dX6_scoreOf_26 (by decide) (fun hc => ?_) (fun hc => ?_)
        · have h := h.1 hc
          refine lv_iload_n hx hb dX6_scoreOf_34 rfl (lv_at hl 3 rfl) ?_
          refine lv_istore_n (lv' := [(3, .int x3), (0, .ref (zq Z 100)), (1, .int x1), (2, .int x2), (4, .int x4)]) hx hb dX6_scoreOf_35 rfl hl (by decide) rfl (fun ls hl => ?_)
          refine lv_iinc (v := (x4 + 1)) (lv' := [(4, .int (x4 + 1)), (3, .int x3), (0, .ref (zq Z 100)), (1, .int x1), (2, .int x2)]) hx hb dX6_scoreOf_36 hl (k := 4) rfl rfl (by decide) rfl (fun ls hl => ?_)
          refine lv_goto (tgt := 9) hx hb dX6_scoreOf_39 (by decide) ?_
          exact ih9 σ x1 x2 x3 (x4 + 1) _ _ _ h hP hS (lv_sub hl [2, 3, 4, 1, 0] rfl)
        · have h := h.2 hc
          refine lv_iload hx hb dX6_scoreOf_29 (lv_at hl 4 rfl) ?_
          refine lv_goto (tgt := 35) hx hb dX6_scoreOf_31 (by decide) ?_
          refine lv_istore_n (lv' := [(3, .int x4), (0, .ref (zq Z 100)), (1, .int x1), (2, .int x2), (4, .int x4)]) hx hb dX6_scoreOf_35 rfl hl (by decide) rfl (fun ls hl => ?_)
          refine lv_iinc (v := (x4 + 1)) (lv' := [(4, .int (x4 + 1)), (3, .int x4), (0, .ref (zq Z 100)), (1, .int x1), (2, .int x2)]) hx hb dX6_scoreOf_36 hl (k := 4) rfl rfl (by decide) rfl (fun ls hl => ?_)
          refine lv_goto (tgt := 9) hx hb dX6_scoreOf_39 (by decide) ?_
          exact ih9 σ x1 x2 x4 (x4 + 1) _ _ _ h hP hS (lv_sub hl [2, 3, 4, 1, 0] rfl)
  unfold wp_X6_scoreOf at h
  refine lv_aload_n hx hb dX6_scoreOf_0 rfl (lv_at hl 0 rfl) ?_
  refine zc_VV (As := []) (rest := []) ⟨hx, hb, hml, hown, hts⟩ (cwV 0 hts gX6_scoreOf_X6_findsNews rfl rfl rfl hd_X6_findsNews ⟨Nat.le_of_ble_eq_true rfl, Nat.le_of_ble_eq_true rfl⟩) (mt_X6_findsNews l hZ σ _  _ h) (rc_6 hZ hE hP kd100) hE hP hS rfl hl.1 rfl (Nat.le_of_ble_eq_true rfl) dX6_scoreOf_1 ⟨Nat.zero_le _, Nat.zero_le _⟩ (fun σ1 H locs h hP hS => ?_)
  refine lv_iconst (v := (-1)) hx hb dX6_scoreOf_4 (by decide) ?_
  refine lv_istore_n (lv' := [(3, .int (-1)), (0, .ref (zq Z 100)), (1, .int x1), (2, .int x2)]) hx hb dX6_scoreOf_5 rfl hl (by decide) rfl (fun ls hl => ?_)
  refine lv_iconst (v := 0) hx hb dX6_scoreOf_6 (by decide) ?_
  refine lv_istore (lv' := [(4, .int 0), (3, .int (-1)), (0, .ref (zq Z 100)), (1, .int x1), (2, .int x2)]) hx hb dX6_scoreOf_7 hl (by decide) rfl (fun ls hl => ?_)
  obtain ⟨n, h⟩ := h
  exact B9 n σ1 x1 x2 (-1) 0 _ _ _ h hP hS (lv_sub hl [2, 3, 4, 1, 0] rfl)
