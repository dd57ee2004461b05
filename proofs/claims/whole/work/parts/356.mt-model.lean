theorem hd_X6_overAll : yX6_overAll.cls = RX6 ∧ yX6_overAll.cls ≠ "java/lang/invoke/MethodHandle" ∧ yX6_overAll.cls ≠ "java/lang/invoke/VarHandle" ∧ (parseMethodDescriptor yX6_overAll.desc).map (fun d => d.parameters.length) = some 1 := by decide +kernel
set_option maxHeartbeats 4000000 in
set_option maxRecDepth 100000 in
theorem mt_X6_overAll (l : Launch) {Z : ZW} (hZ : isM Z) (σ : SS) (sz : Nat) (x1 : Int32) (K : SS → Int32 → Prop) (h : wp_X6_overAll σ x1 K) : mtZ l yX6_overAll wsX6_overAll (rm9 8 187) Z [.ref (zq Z 100), .int x1] σ sz (qcI Z K sz) := by
  refine Met.ofW (cc := cX6_overAll) (maxL := 4) (ret := (some .int)) (by decide) rfl ?_
  intro p e s m args below meth c s₁ B hml hv
  obtain ⟨hargs, hsz, hP, hE1, hE2, hE3⟩ := hv
  subst hsz
  have hE : envZ Z s := ⟨hE1, hE2, hE3⟩
  have hx := B.exec
  have hb := B.bytes
  have hr := B.returns
  have hlocks := B.notSynchronized
  have hts := atoms_spec (ws := wsX6_overAll) B.pre
  have hown : s.vm.findClass RX6 = some m.cls := findClass_of_methodNamed B.named
  have hS : SZ Z s s.heap [] := va_S.rf
  obtain ⟨ls, hef, hl⟩ := z_entry m hargs (n := 4) (Nat.le_of_ble_eq_true rfl)
  rw [hef]
  have hl : lv_has ls 4 [(0, .ref (zq Z 100)), (1, .int x1)] := hl
  have in6 : ∀ w ∈ u_ws RX6 TX6 28, w ∈ wsX6_overAll := by decide +kernel
  have lk157 := hts (.fieldLink RX6 157 "BeatDoubtsModel" "watchers" "I") (by decide +kernel)
  have B4 : ∀ (n : Nat) (σ : SS) (x1 : Int32) (x2 : Int32) (x3 : Int32) (H : Heap) (locs : List Loc) (ls : Array Slot), fx4 (lb_X6_overAll_4 K) n σ x1 x2 x3 → PZ Z σ H → SZ Z s H locs → lv_has ls 4 [(0, .ref (zq Z 100)), (1, .int x1), (2, .int x2), (3, .int x3)] → W p l e (headSpec wsX6_overAll (rm9 8 187)).room s m args below meth c H locs 0 0 (MQ below (qcI Z K s.heap.size) args s 0 0 (aZ Z s.heap.size)) (F0 m 4 ls []) := by
    intro n4
    induction n4 with
    | zero => intro σ x1 x2 x3 H locs ls h; exact h.elim
    | succ n4 ih4 =>
      intro σ x1 x2 x3 H locs ls h hP hS hl
      have h : lb_X6_overAll_4 K (fx4 (lb_X6_overAll_4 K) n4) σ x1 x2 x3 := h
      unfold lb_X6_overAll_4 at h
      refine lv_iload_n hx hb dX6_overAll_4 rfl (lv_at hl 3 rfl) ?_
      refine lv_aload_n hx hb dX6_overAll_5 rfl (lv_at hl 0 rfl) ?_
      refine fg_6_12 hZ hx hb hts in6 hown hE hP kd100 lk157 dX6_overAll_6 ?_
      refine lv_icmp_ge (tgt := 72) hx hb dX6_overAll_9 (by decide) (fun hc => ?_) (fun hc => ?_)
      · have h := h.1 hc
        refine lv_iload_n hx hb dX6_overAll_72 rfl (lv_at hl 2 rfl) ?_
        exact zr_I hx hb hr hlocks hP hS h dX6_overAll_73
      · have h := h.2 hc
        refine lv_iload_n hx hb dX6_overAll_12 rfl (lv_at hl 2 rfl) ?_
        refine lv_iload_n hx hb dX6_overAll_13 rfl (lv_at hl 1 rfl) ?_
        refine lv_iconst (v := 4) hx hb dX6_overAll_14 (by decide) ?_
        refine lv_icmp_ne (tgt := 27) hx hb dX6_overAll_15 (by decide) (fun hc => ?_) (fun hc => ?_)
        · have h := h.1 hc
          refine lv_iload_n hx hb dX6_overAll_27 rfl (lv_at hl 1 rfl) ?_
          refine lv_iconst (v := 5) hx hb dX6_overAll_28 (by decide) ?_
          refine lv_icmp_ne (tgt := 50) hx hb dX6_overAll_29 (by decide) (fun hc => ?_) (fun hc => ?_)
          · have h := h.1 hc
            refine lv_aload_n hx hb dX6_overAll_50 rfl (lv_at hl 0 rfl) ?_
            refine lv_iload_n hx hb dX6_overAll_51 rfl (lv_at hl 3 rfl) ?_
            refine zc_VI (As := [.int x3]) (rest := [.int x2]) ⟨hx, hb, hml, hown, hts⟩ (cwV 1 hts gX6_overAll_X6_forGood rfl rfl rfl hd_X6_forGood ⟨Nat.le_of_ble_eq_true rfl, Nat.le_of_ble_eq_true rfl⟩) (mt_X6_forGood l hZ σ _ x3 _ h) (rc_6 hZ hE hP kd100) hE hP hS rfl hl.1 rfl (Nat.le_of_ble_eq_true rfl) dX6_overAll_52 ⟨Nat.zero_le _, Nat.zero_le _⟩ (fun r52 σ52 H locs h hP hS => ?_)
            refine lv_iconst (v := (-1)) hx hb dX6_overAll_55 (by decide) ?_
            refine lv_icmp_ne (tgt := 63) hx hb dX6_overAll_56 (by decide) (fun hc => ?_) (fun hc => ?_)
            · have h := h.1 hc
              refine lv_iconst (v := 1) hx hb dX6_overAll_63 (by decide) ?_
              refine lv_iadd hx hb dX6_overAll_64 ?_
              refine lv_istore_n (lv' := [(2, .int (x2 + 1)), (0, .ref (zq Z 100)), (1, .int x1), (3, .int x3)]) hx hb dX6_overAll_65 rfl hl (by decide) rfl (fun ls hl => ?_)
              refine lv_iinc (v := (x3 + 1)) (lv' := [(3, .int (x3 + 1)), (2, .int (x2 + 1)), (0, .ref (zq Z 100)), (1, .int x1)]) hx hb dX6_overAll_66 hl (k := 3) rfl rfl (by decide) rfl (fun ls hl => ?_)
              refine lv_goto (tgt := 4) hx hb dX6_overAll_69 (by decide) ?_
              exact ih4 σ52 x1 (x2 + 1) (x3 + 1) _ _ _ h hP hS (lv_sub hl [2, 3, 1, 0] rfl)
            · have h := h.2 hc
              refine lv_iconst (v := 0) hx hb dX6_overAll_59 (by decide) ?_
              refine lv_goto (tgt := 64) hx hb dX6_overAll_60 (by decide) ?_
              refine lv_iadd hx hb dX6_overAll_64 ?_
              refine lv_istore_n (lv' := [(2, .int (x2 + 0)), (0, .ref (zq Z 100)), (1, .int x1), (3, .int x3)]) hx hb dX6_overAll_65 rfl hl (by decide) rfl (fun ls hl => ?_)
              refine lv_iinc (v := (x3 + 1)) (lv' := [(3, .int (x3 + 1)), (2, .int (x2 + 0)), (0, .ref (zq Z 100)), (1, .int x1)]) hx hb dX6_overAll_66 hl (k := 3) rfl rfl (by decide) rfl (fun ls hl => ?_)
              refine lv_goto (tgt := 4) hx hb dX6_overAll_69 (by decide) ?_
              exact ih4 σ52 x1 (x2 + 0) (x3 + 1) _ _ _ h hP hS (lv_sub hl [2, 3, 1, 0] rfl)
          · have h := h.2 hc
            refine lv_aload_n hx hb dX6_overAll_32 rfl (lv_at hl 0 rfl) ?_
            refine lv_iload_n hx hb dX6_overAll_33 rfl (lv_at hl 3 rfl) ?_
            refine zc_VI (As := [.int x3]) (rest := [.int x2]) ⟨hx, hb, hml, hown, hts⟩ (cwV 1 hts gX6_overAll_X6_isKept rfl rfl rfl hd_X6_isKept ⟨Nat.le_of_ble_eq_true rfl, Nat.le_of_ble_eq_true rfl⟩) (mt_X6_isKept l hZ σ _ x3 _ h) (rc_6 hZ hE hP kd100) hE hP hS rfl hl.1 rfl (Nat.le_of_ble_eq_true rfl) dX6_overAll_34 ⟨Nat.zero_le _, Nat.zero_le _⟩ (fun r34 σ34 H locs h hP hS => ?_)
            refine lv_if_eq (tgt := 46) hx hb dX6_overAll_37 (by decide) (fun hc => ?_) (fun hc => ?_)
            · have h := h.1 hc
              refine lv_iconst (v := 0) hx hb dX6_overAll_46 (by decide) ?_
              refine lv_goto (tgt := 64) hx hb dX6_overAll_47 (by decide) ?_
              refine lv_iadd hx hb dX6_overAll_64 ?_
              refine lv_istore_n (lv' := [(2, .int (x2 + 0)), (0, .ref (zq Z 100)), (1, .int x1), (3, .int x3)]) hx hb dX6_overAll_65 rfl hl (by decide) rfl (fun ls hl => ?_)
              refine lv_iinc (v := (x3 + 1)) (lv' := [(3, .int (x3 + 1)), (2, .int (x2 + 0)), (0, .ref (zq Z 100)), (1, .int x1)]) hx hb dX6_overAll_66 hl (k := 3) rfl rfl (by decide) rfl (fun ls hl => ?_)
              refine lv_goto (tgt := 4) hx hb dX6_overAll_69 (by decide) ?_
              exact ih4 σ34 x1 (x2 + 0) (x3 + 1) _ _ _ h hP hS (lv_sub hl [2, 3, 1, 0] rfl)
            · have h := h.2 hc
              refine lv_iconst (v := 1) hx hb dX6_overAll_40 (by decide) ?_
              refine lv_iload_n hx hb dX6_overAll_41 rfl (lv_at hl 3 rfl) ?_
              refine lv_ishl hx hb dX6_overAll_42 ?_
              refine lv_goto (tgt := 64) hx hb dX6_overAll_43 (by decide) ?_
              refine lv_iadd hx hb dX6_overAll_64 ?_
              refine lv_istore_n (lv' := [(2, .int (x2 + ((1 : Int32) <<< (x3 &&& 31)))), (0, .ref (zq Z 100)), (1, .int x1), (3, .int x3)]) hx hb dX6_overAll_65 rfl hl (by decide) rfl (fun ls hl => ?_)
              refine lv_iinc (v := (x3 + 1)) (lv' := [(3, .int (x3 + 1)), (2, .int (x2 + ((1 : Int32) <<< (x3 &&& 31)))), (0, .ref (zq Z 100)), (1, .int x1)]) hx hb dX6_overAll_66 hl (k := 3) rfl rfl (by decide) rfl (fun ls hl => ?_)
              refine lv_goto (tgt := 4) hx hb dX6_overAll_69 (by decide) ?_
              exact ih4 σ34 x1 (x2 + ((1 : Int32) <<< (x3 &&& 31))) (x3 + 1) _ _ _ h hP hS (lv_sub hl [2, 3, 1, 0] rfl)
        · have h := h.2 hc
          refine lv_aload_n hx hb dX6_overAll_18 rfl (lv_at hl 0 rfl) ?_
          refine lv_iload_n hx hb dX6_overAll_19 rfl (lv_at hl 3 rfl) ?_
          refine lv_iconst (v := 4) hx hb dX6_overAll_20 (by decide) ?_
          refine zc_VI (As := [.int x3, .int 4]) (rest := [.int x2]) ⟨hx, hb, hml, hown, hts⟩ (cwV 2 hts gX6_overAll_X6_infoOf rfl rfl rfl hd_X6_infoOf ⟨Nat.le_of_ble_eq_true rfl, Nat.le_of_ble_eq_true rfl⟩) (mt_X6_infoOf l hZ σ _ x3 4 _ h) (rc_6 hZ hE hP kd100) hE hP hS rfl hl.1 rfl (Nat.le_of_ble_eq_true rfl) dX6_overAll_21 ⟨Nat.zero_le _, Nat.zero_le _⟩ (fun r21 σ21 H locs h hP hS => ?_)
          refine lv_goto (tgt := 64) hx hb dX6_overAll_24 (by decide) ?_
          refine lv_iadd hx hb dX6_overAll_64 ?_
          refine lv_istore_n (lv' := [(2, .int (x2 + r21)), (0, .ref (zq Z 100)), (1, .int x1), (3, .int x3)]) hx hb dX6_overAll_65 rfl hl (by decide) rfl (fun ls hl => ?_)
          refine lv_iinc (v := (x3 + 1)) (lv' := [(3, .int (x3 + 1)), (2, .int (x2 + r21)), (0, .ref (zq Z 100)), (1, .int x1)]) hx hb dX6_overAll_66 hl (k := 3) rfl rfl (by decide) rfl (fun ls hl => ?_)
          refine lv_goto (tgt := 4) hx hb dX6_overAll_69 (by decide) ?_
          exact ih4 σ21 x1 (x2 + r21) (x3 + 1) _ _ _ h hP hS (lv_sub hl [2, 3, 1, 0] rfl)
  unfold wp_X6_overAll at h
  refine lv_iconst (v := 0) hx hb dX6_overAll_0 (by decide) ?_
  refine lv_istore_n (lv' := [(2, .int 0), (0, .ref (zq Z 100)), (1, .int x1)]) hx hb dX6_overAll_1 rfl hl (by decide) rfl (fun ls hl => ?_)
  refine lv_iconst (v := 0) hx hb dX6_overAll_2 (by decide) ?_
  refine lv_istore_n (lv' := [(3, .int 0), (2, .int 0), (0, .ref (zq Z 100)), (1, .int x1)]) hx hb dX6_overAll_3 rfl hl (by decide) rfl (fun ls hl => ?_)
  obtain ⟨n, h⟩ := h
  exact B4 n σ x1 0 0 _ _ _ h hP hS (lv_sub hl [2, 3, 1, 0] rfl)
theorem hd_X6_count : yX6_count.cls = RX6 ∧ yX6_count.cls ≠ "java/lang/invoke/MethodHandle" ∧ yX6_count.cls ≠ "java/lang/invoke/VarHandle" ∧ (parseMethodDescriptor yX6_count.desc).map (fun d => d.parameters.length) = some 1 := by decide +kernel
set_option maxHeartbeats 4000000 in
set_option maxRecDepth 100000 in
theorem mt_X6_count (l : Launch) {Z : ZW} (hZ : isM Z) (σ : SS) (sz : Nat) (x1 : Int32) (K : SS → Int32 → Prop) (h : wp_X6_count σ x1 K) : mtZ l yX6_count wsX6_count (rm9 9 210) Z [.ref (zq Z 100), .int x1] σ sz (qcI Z K sz) := by
  refine Met.ofW (cc := cX6_count) (maxL := 2) (ret := (some .int)) (by decide) rfl ?_
  intro p e s m args below meth c s₁ B hml hv
  obtain ⟨hargs, hsz, hP, hE1, hE2, hE3⟩ := hv
  subst hsz
  have hE : envZ Z s := ⟨hE1, hE2, hE3⟩
  have hx := B.exec
  have hb := B.bytes
  have hr := B.returns
  have hlocks := B.notSynchronized
  have hts := atoms_spec (ws := wsX6_count) B.pre
  have hown : s.vm.findClass RX6 = some m.cls := findClass_of_methodNamed B.named
  have hS : SZ Z s s.heap [] := va_S.rf
  obtain ⟨ls, hef, hl⟩ := z_entry m hargs (n := 2) (Nat.le_of_ble_eq_true rfl)
  rw [hef]
  have hl : lv_has ls 2 [(0, .ref (zq Z 100)), (1, .int x1)] := hl
  have in6 : ∀ w ∈ u_ws RX6 TX6 28, w ∈ wsX6_count := by decide +kernel
  have lk107 := hts (.fieldLink RX6 107 "BeatDoubtsModel" "newsMany" "I") (by decide +kernel)
  have lk157 := hts (.fieldLink RX6 157 "BeatDoubtsModel" "watchers" "I") (by decide +kernel)
  have lk231 := hts (.fieldLink RX6 231 "BeatDoubtsModel" "finding" "I") (by decide +kernel)
  have lk26 := hts (.fieldLink RX6 26 "BeatDoubtsModel" "newsTimes" "[I") (by decide +kernel)
  have lk80 := hts (.fieldLink RX6 80 "BeatDoubtsModel" "many" "I") (by decide +kernel)
  unfold wp_X6_count at h
  refine lv_iload_n hx hb dX6_count_0 rfl (lv_at hl 1 rfl) ?_
  by_cases hc0 : x1 = 0
  · have h := h.1 hc0
    refine lv_tableIn (tgt := 52) hx hb dX6_count_1 (by rw [hc0] <;> decide) (by rw [hc0] <;> decide) (by rw [hc0] <;> rfl) (by decide) ?_
    refine lv_aload_n hx hb dX6_count_52 rfl (lv_at hl 0 rfl) ?_
    refine fg_6_1 hZ hx hb hts in6 hown hE hP kd100 lk80 dX6_count_53 ?_
    exact zr_I hx hb hr hlocks hP hS h dX6_count_56
  by_cases hc1 : x1 = 1
  · have h := h.2.1 hc1
    refine lv_tableIn (tgt := 57) hx hb dX6_count_1 (by rw [hc1] <;> decide) (by rw [hc1] <;> decide) (by rw [hc1] <;> rfl) (by decide) ?_
    refine lv_aload_n hx hb dX6_count_57 rfl (lv_at hl 0 rfl) ?_
    refine zc_VI (As := []) (rest := []) ⟨hx, hb, hml, hown, hts⟩ (cwV 0 hts gX6_count_X6_lostMany rfl rfl rfl hd_X6_lostMany ⟨Nat.le_of_ble_eq_true rfl, Nat.le_of_ble_eq_true rfl⟩) (mt_X6_lostMany l hZ σ _  _ h) (rc_6 hZ hE hP kd100) hE hP hS rfl hl.1 rfl (Nat.le_of_ble_eq_true rfl) dX6_count_58 ⟨Nat.zero_le _, Nat.zero_le _⟩ (fun r58 σ58 H locs h hP hS => ?_)
    exact zr_I hx hb hr hlocks hP hS h dX6_count_61
  by_cases hc2 : x1 = 2
  · have h := h.2.2.1 hc2
    refine lv_tableIn (tgt := 62) hx hb dX6_count_1 (by rw [hc2] <;> decide) (by rw [hc2] <;> decide) (by rw [hc2] <;> rfl) (by decide) ?_
    refine lv_aload_n hx hb dX6_count_62 rfl (lv_at hl 0 rfl) ?_
    refine zc_VI (As := []) (rest := []) ⟨hx, hb, hml, hown, hts⟩ (cwV 0 hts gX6_count_X6_newsNow rfl rfl rfl hd_X6_newsNow ⟨Nat.le_of_ble_eq_true rfl, Nat.le_of_ble_eq_true rfl⟩) (mt_X6_newsNow l hZ σ _  _ h) (rc_6 hZ hE hP kd100) hE hP hS rfl hl.1 rfl (Nat.le_of_ble_eq_true rfl) dX6_count_63 ⟨Nat.zero_le _, Nat.zero_le _⟩ (fun r63 σ63 H locs h hP hS => ?_)
    exact zr_I hx hb hr hlocks hP hS h dX6_count_66
  by_cases hc3 : x1 = 3
  · have h := h.2.2.2.1 hc3
    refine lv_tableIn (tgt := 67) hx hb dX6_count_1 (by rw [hc3] <;> decide) (by rw [hc3] <;> decide) (by rw [hc3] <;> rfl) (by decide) ?_
    refine lv_aload_n hx hb dX6_count_67 rfl (lv_at hl 0 rfl) ?_
    refine fg_6_12 hZ hx hb hts in6 hown hE hP kd100 lk157 dX6_count_68 ?_
    exact zr_I hx hb hr hlocks hP hS h dX6_count_71
  by_cases hc4 : x1 = 4
  · have h := h.2.2.2.2.1 hc4
    refine lv_tableIn (tgt := 72) hx hb dX6_count_1 (by rw [hc4] <;> decide) (by rw [hc4] <;> decide) (by rw [hc4] <;> rfl) (by decide) ?_
    refine lv_aload_n hx hb dX6_count_72 rfl (lv_at hl 0 rfl) ?_
    refine lv_iload_n hx hb dX6_count_73 rfl (lv_at hl 1 rfl) ?_
    refine zc_VI (As := [.int x1]) (rest := []) ⟨hx, hb, hml, hown, hts⟩ (cwV 1 hts gX6_count_X6_overAll rfl rfl rfl hd_X6_overAll ⟨Nat.le_of_ble_eq_true rfl, Nat.le_of_ble_eq_true rfl⟩) (mt_X6_overAll l hZ σ _ x1 _ h) (rc_6 hZ hE hP kd100) hE hP hS rfl hl.1 rfl (Nat.le_of_ble_eq_true rfl) dX6_count_74 ⟨Nat.zero_le _, Nat.zero_le _⟩ (fun r74 σ74 H locs h hP hS => ?_)
    exact zr_I hx hb hr hlocks hP hS h dX6_count_77
  by_cases hc5 : x1 = 5
  · have h := h.2.2.2.2.2.1 hc5
    refine lv_tableIn (tgt := 72) hx hb dX6_count_1 (by rw [hc5] <;> decide) (by rw [hc5] <;> decide) (by rw [hc5] <;> rfl) (by decide) ?_
    refine lv_aload_n hx hb dX6_count_72 rfl (lv_at hl 0 rfl) ?_
    refine lv_iload_n hx hb dX6_count_73 rfl (lv_at hl 1 rfl) ?_
    refine zc_VI (As := [.int x1]) (rest := []) ⟨hx, hb, hml, hown, hts⟩ (cwV 1 hts gX6_count_X6_overAll rfl rfl rfl hd_X6_overAll ⟨Nat.le_of_ble_eq_true rfl, Nat.le_of_ble_eq_true rfl⟩) (mt_X6_overAll l hZ σ _ x1 _ h) (rc_6 hZ hE hP kd100) hE hP hS rfl hl.1 rfl (Nat.le_of_ble_eq_true rfl) dX6_count_74 ⟨Nat.zero_le _, Nat.zero_le _⟩ (fun r74 σ74 H locs h hP hS => ?_)
    exact zr_I hx hb hr hlocks hP hS h dX6_count_77
  by_cases hc6 : x1 = 6
  · have h := h.2.2.2.2.2.2.1 hc6
    refine lv_tableIn (tgt := 78) hx hb dX6_count_1 (by rw [hc6] <;> decide) (by rw [hc6] <;> decide) (by rw [hc6] <;> rfl) (by decide) ?_
    refine lv_aload_n hx hb dX6_count_78 rfl (lv_at hl 0 rfl) ?_
    refine zc_VI (As := []) (rest := []) ⟨hx, hb, hml, hown, hts⟩ (cwV 0 hts gX6_count_X6_newsNow rfl rfl rfl hd_X6_newsNow ⟨Nat.le_of_ble_eq_true rfl, Nat.le_of_ble_eq_true rfl⟩) (mt_X6_newsNow l hZ σ _  _ h) (rc_6 hZ hE hP kd100) hE hP hS rfl hl.1 rfl (Nat.le_of_ble_eq_true rfl) dX6_count_79 ⟨Nat.zero_le _, Nat.zero_le _⟩ (fun r79 σ79 H locs h hP hS => ?_)
    refine lv_if_ne (tgt := 89) hx hb dX6_count_82 (by decide) (fun hc => ?_) (fun hc => ?_)
    · have h := h.1 hc
      refine lv_aload_n hx hb dX6_count_89 rfl (lv_at hl 0 rfl) ?_
      refine fg_6_6 hZ hx hb hts in6 hown hE hP kd100 lk26 dX6_count_90 ?_
      refine lv_aload_n hx hb dX6_count_93 rfl (lv_at hl 0 rfl) ?_
      refine fg_6_7 hZ hx hb hts in6 hown hE hP kd100 lk107 dX6_count_94 ?_
      refine lv_iconst (v := 1) hx hb dX6_count_97 (by decide) ?_
      refine lv_isub hx hb dX6_count_98 ?_
      obtain ⟨hin, h⟩ := h
      refine al_20 hZ hx hb hE hP kr_6_6 hin dX6_count_99 ?_
      exact zr_I hx hb hr hlocks hP hS h dX6_count_100
    · have h := h.2 hc
      refine lv_iconst (v := (-1)) hx hb dX6_count_85 (by decide) ?_
      refine lv_goto (tgt := 100) hx hb dX6_count_86 (by decide) ?_
      exact zr_I hx hb hr hlocks hP hS h dX6_count_100
  by_cases hc7 : x1 = 7
  · have h := h.2.2.2.2.2.2.2.1 hc7
    refine lv_tableIn (tgt := 72) hx hb dX6_count_1 (by rw [hc7] <;> decide) (by rw [hc7] <;> decide) (by rw [hc7] <;> rfl) (by decide) ?_
    refine lv_aload_n hx hb dX6_count_72 rfl (lv_at hl 0 rfl) ?_
    refine lv_iload_n hx hb dX6_count_73 rfl (lv_at hl 1 rfl) ?_
    refine zc_VI (As := [.int x1]) (rest := []) ⟨hx, hb, hml, hown, hts⟩ (cwV 1 hts gX6_count_X6_overAll rfl rfl rfl hd_X6_overAll ⟨Nat.le_of_ble_eq_true rfl, Nat.le_of_ble_eq_true rfl⟩) (mt_X6_overAll l hZ σ _ x1 _ h) (rc_6 hZ hE hP kd100) hE hP hS rfl hl.1 rfl (Nat.le_of_ble_eq_true rfl) dX6_count_74 ⟨Nat.zero_le _, Nat.zero_le _⟩ (fun r74 σ74 H locs h hP hS => ?_)
    exact zr_I hx hb hr hlocks hP hS h dX6_count_77
  by_cases hc8 : x1 = 8
  · have h := h.2.2.2.2.2.2.2.2.1 hc8
    refine lv_tableIn (tgt := 101) hx hb dX6_count_1 (by rw [hc8] <;> decide) (by rw [hc8] <;> decide) (by rw [hc8] <;> rfl) (by decide) ?_
    refine lv_aload_n hx hb dX6_count_101 rfl (lv_at hl 0 rfl) ?_
    refine fg_6_27 hZ hx hb hts in6 hown hE hP kd100 lk231 dX6_count_102 ?_
    exact zr_I hx hb hr hlocks hP hS h dX6_count_105
  have h := h.2.2.2.2.2.2.2.2.2 hc0 hc1 hc2 hc3 hc4 hc5 hc6 hc7 hc8
  refine lv_tableOut (tgt := 106) hx hb dX6_count_1 (tsw9 hc0 hc1 hc2 hc3 hc4 hc5 hc6 hc7 hc8) (by decide) ?_
  refine lv_bipush (v := (-2)) hx hb dX6_count_106 (by decide) ?_
  exact zr_I hx hb hr hlocks hP hS h dX6_count_108
theorem hd_X6_watcherDigest : yX6_watcherDigest.cls = RX6 ∧ yX6_watcherDigest.cls ≠ "java/lang/invoke/MethodHandle" ∧ yX6_watcherDigest.cls ≠ "java/lang/invoke/VarHandle" ∧ (parseMethodDescriptor yX6_watcherDigest.desc).map (fun d => d.parameters.length) = some 2 := by decide +kernel
set_option maxHeartbeats 4000000 in
set_option maxRecDepth 100000 in
theorem mt_X6_watcherDigest (l : Launch) {Z : ZW} (hZ : isM Z) (σ : SS) (sz : Nat) (x1 : Int64) (x3 : Int32) (K : SS → Int64 → Prop) (h : wp_X6_watcherDigest σ x1 x3 K) : mtZ l yX6_watcherDigest wsX6_watcherDigest (rm9 8 192) Z [.ref (zq Z 100), .long x1, .int x3] σ sz (qcL Z K sz) := by
  refine Met.ofW (cc := cX6_watcherDigest) (maxL := 9) (ret := (some .long)) (by decide) rfl ?_
  intro p e s m args below meth c s₁ B hml hv
  obtain ⟨hargs, hsz, hP, hE1, hE2, hE3⟩ := hv
  subst hsz
  have hE : envZ Z s := ⟨hE1, hE2, hE3⟩
  have hx := B.exec
  have hb := B.bytes
  have hr := B.returns
  have hlocks := B.notSynchronized
  have hts := atoms_spec (ws := wsX6_watcherDigest) B.pre
  have hown : s.vm.findClass RX6 = some m.cls := findClass_of_methodNamed B.named
  have hS : SZ Z s s.heap [] := va_S.rf
  obtain ⟨ls, hef, hl⟩ := z_entry m hargs (n := 9) (Nat.le_of_ble_eq_true rfl)
  rw [hef]
  have hl : lv_has ls 9 [(0, .ref (zq Z 100)), (1, .long x1), (3, .int x3)] := hl
  have lk251 := hts (.constantLong RX6 251 (31)) (by decide +kernel)
  have B128 : ∀ (n : Nat) (σ : SS) (x3 : Int32) (x4 : Int64) (x7 : Int32) (H : Heap) (locs : List Loc) (ls : Array Slot), fx4 (lb_X6_watcherDigest_128 K) n σ x3 x4 x7 → PZ Z σ H → SZ Z s H locs → lv_has ls 9 [(0, .ref (zq Z 100)), (3, .int x3), (4, .long x4), (7, .int x7)] → W p l e (headSpec wsX6_watcherDigest (rm9 8 192)).room s m args below meth c H locs 0 0 (MQ below (qcL Z K s.heap.size) args s 0 0 (aZ Z s.heap.size)) (F0 m 128 ls []) := by
    intro n128
    induction n128 with
    | zero => intro σ x3 x4 x7 H locs ls h; exact h.elim
    | succ n128 ih128 =>
      intro σ x3 x4 x7 H locs ls h hP hS hl
      have h : lb_X6_watcherDigest_128 K (fx4 (lb_X6_watcherDigest_128 K) n128) σ x3 x4 x7 := h
      unfold lb_X6_watcherDigest_128 at h
      refine lv_iload hx hb dX6_watcherDigest_128 (lv_at hl 3 rfl) ?_
      refine lv_aload_n hx hb dX6_watcherDigest_130 rfl (lv_at hl 0 rfl) ?_
      refine zc_VI (As := []) (rest := [.int x7]) ⟨hx, hb, hml, hown, hts⟩ (cwV 0 hts gX6_watcherDigest_X6_newsNow rfl rfl rfl hd_X6_newsNow ⟨Nat.le_of_ble_eq_true rfl, Nat.le_of_ble_eq_true rfl⟩) (mt_X6_newsNow l hZ σ _  _ h) (rc_6 hZ hE hP kd100) hE hP hS rfl hl.1 rfl (Nat.le_of_ble_eq_true rfl) dX6_watcherDigest_131 ⟨Nat.zero_le _, Nat.zero_le _⟩ (fun r131 σ131 H locs h hP hS => ?_)
      refine lv_icmp_ge (tgt := 160) hx hb dX6_watcherDigest_134 (by decide) (fun hc => ?_) (fun hc => ?_)
      · have h := h.1 hc
        refine lv_lload hx hb dX6_watcherDigest_160 (lv_at hl 2 rfl) ?_
        exact zr_L hx hb hr hlocks hP hS h dX6_watcherDigest_162
      · have h := h.2 hc
        refine lv_ldc2 (v := 31) hx hb hown lk251 dX6_watcherDigest_137 ?_
        refine lv_lload hx hb dX6_watcherDigest_140 (lv_at hl 2 rfl) ?_
        refine lv_lmul hx hb dX6_watcherDigest_142 ?_
        refine lv_aload_n hx hb dX6_watcherDigest_143 rfl (lv_at hl 0 rfl) ?_
        refine lv_iload_n hx hb dX6_watcherDigest_144 rfl (lv_at hl 1 rfl) ?_
        refine lv_iload hx hb dX6_watcherDigest_145 (lv_at hl 3 rfl) ?_
        refine zc_VI (As := [.int x3, .int x7]) (rest := [.long (31 * x4)]) ⟨hx, hb, hml, hown, hts⟩ (cwV 2 hts gX6_watcherDigest_X6_limitOf rfl rfl rfl hd_X6_limitOf ⟨Nat.le_of_ble_eq_true rfl, Nat.le_of_ble_eq_true rfl⟩) (mt_X6_limitOf l hZ σ131 _ x3 x7 _ h) (rc_6 hZ hE hP kd100) hE hP hS rfl hl.1 rfl (Nat.le_of_ble_eq_true rfl) dX6_watcherDigest_147 ⟨Nat.zero_le _, Nat.zero_le _⟩ (fun r147 σ147 H locs h hP hS => ?_)
        refine lv_i2l hx hb dX6_watcherDigest_150 rfl ?_
        refine lv_ladd hx hb dX6_watcherDigest_151 ?_
        refine lv_lstore (lv' := [(4, .long ((31 * x4) + r147.toInt64)), (0, .ref (zq Z 100)), (3, .int x3), (7, .int x7)]) hx hb dX6_watcherDigest_152 hl (by decide) rfl (fun ls hl => ?_)
        refine lv_iinc (v := (x7 + 1)) (lv' := [(7, .int (x7 + 1)), (4, .long ((31 * x4) + r147.toInt64)), (0, .ref (zq Z 100)), (3, .int x3)]) hx hb dX6_watcherDigest_154 hl (k := 3) rfl rfl (by decide) rfl (fun ls hl => ?_)
        refine lv_goto (tgt := 128) hx hb dX6_watcherDigest_157 (by decide) ?_
        exact ih128 σ147 x3 ((31 * x4) + r147.toInt64) (x7 + 1) _ _ _ h hP hS (lv_sub hl [2, 3, 1, 0] rfl)
  have B78 : ∀ (n : Nat) (σ : SS) (x3 : Int32) (x4 : Int64) (x6 : Int32) (x7 : Int32) (H : Heap) (locs : List Loc) (ls : Array Slot), fx5 (lb_X6_watcherDigest_78 K) n σ x3 x4 x6 x7 → PZ Z σ H → SZ Z s H locs → lv_has ls 9 [(0, .ref (zq Z 100)), (3, .int x3), (4, .long x4), (6, .int x6), (7, .int x7)] → W p l e (headSpec wsX6_watcherDigest (rm9 8 192)).room s m args below meth c H locs 0 0 (MQ below (qcL Z K s.heap.size) args s 0 0 (aZ Z s.heap.size)) (F0 m 78 ls []) := by
    intro n78
    induction n78 with
    | zero => intro σ x3 x4 x6 x7 H locs ls h; exact h.elim
    | succ n78 ih78 =>
      have B88 : ∀ (n : Nat) (σ : SS) (x3 : Int32) (x4 : Int64) (x6 : Int32) (x7 : Int32) (x8 : Int32) (H : Heap) (locs : List Loc) (ls : Array Slot), fx6 (lb_X6_watcherDigest_88 K (fx5 (lb_X6_watcherDigest_78 K) n78)) n σ x3 x4 x6 x7 x8 → PZ Z σ H → SZ Z s H locs → lv_has ls 9 [(0, .ref (zq Z 100)), (3, .int x3), (4, .long x4), (6, .int x6), (7, .int x7), (8, .int x8)] → W p l e (headSpec wsX6_watcherDigest (rm9 8 192)).room s m args below meth c H locs 0 0 (MQ below (qcL Z K s.heap.size) args s 0 0 (aZ Z s.heap.size)) (F0 m 88 ls []) := by
        intro n88
        induction n88 with
        | zero => intro σ x3 x4 x6 x7 x8 H locs ls h; exact h.elim
        | succ n88 ih88 =>
          intro σ x3 x4 x6 x7 x8 H locs ls h hP hS hl
          have h : lb_X6_watcherDigest_88 K (fx5 (lb_X6_watcherDigest_78 K) n78) (fx6 (lb_X6_watcherDigest_88 K (fx5 (lb_X6_watcherDigest_78 K) n78)) n88) σ x3 x4 x6 x7 x8 := h
          unfold lb_X6_watcherDigest_88 at h
          refine lv_iload hx hb dX6_watcherDigest_88 (lv_at hl 5 rfl) ?_
          refine lv_iconst (v := 3) hx hb dX6_watcherDigest_90 (by decide) ?_
          refine lv_icmp_ge (tgt := 119) hx hb dX6_watcherDigest_91 (by decide) (fun hc => ?_) (fun hc => ?_)
          · have h := h.1 hc
            refine lv_iinc (v := (x7 + 1)) (lv' := [(7, .int (x7 + 1)), (0, .ref (zq Z 100)), (3, .int x3), (4, .long x4), (6, .int x6), (8, .int x8)]) hx hb dX6_watcherDigest_119 hl (k := 4) rfl rfl (by decide) rfl (fun ls hl => ?_)
            refine lv_goto (tgt := 78) hx hb dX6_watcherDigest_122 (by decide) ?_
            exact ih78 σ x3 x4 x6 (x7 + 1) _ _ _ h hP hS (lv_sub hl [1, 2, 3, 4, 0] rfl)
          · have h := h.2 hc
            refine lv_ldc2 (v := 31) hx hb hown lk251 dX6_watcherDigest_94 ?_
            refine lv_lload hx hb dX6_watcherDigest_97 (lv_at hl 2 rfl) ?_
            refine lv_lmul hx hb dX6_watcherDigest_99 ?_
            refine lv_aload_n hx hb dX6_watcherDigest_100 rfl (lv_at hl 0 rfl) ?_
            refine lv_iload_n hx hb dX6_watcherDigest_101 rfl (lv_at hl 1 rfl) ?_
            refine lv_iload hx hb dX6_watcherDigest_102 (lv_at hl 4 rfl) ?_
            refine lv_iload hx hb dX6_watcherDigest_104 (lv_at hl 5 rfl) ?_
            refine zc_VI (As := [.int x3, .int x7, .int x8]) (rest := [.long (31 * x4)]) ⟨hx, hb, hml, hown, hts⟩ (cwV 3 hts gX6_watcherDigest_X6_ledgerOf rfl rfl rfl hd_X6_ledgerOf ⟨Nat.le_of_ble_eq_true rfl, Nat.le_of_ble_eq_true rfl⟩) (mt_X6_ledgerOf l hZ σ _ x3 x7 x8 _ h) (rc_6 hZ hE hP kd100) hE hP hS rfl hl.1 rfl (Nat.le_of_ble_eq_true rfl) dX6_watcherDigest_106 ⟨Nat.zero_le _, Nat.zero_le _⟩ (fun r106 σ106 H locs h hP hS => ?_)
            refine lv_i2l hx hb dX6_watcherDigest_109 rfl ?_
            refine lv_ladd hx hb dX6_watcherDigest_110 ?_
            refine lv_lstore (lv' := [(4, .long ((31 * x4) + r106.toInt64)), (0, .ref (zq Z 100)), (3, .int x3), (6, .int x6), (7, .int x7), (8, .int x8)]) hx hb dX6_watcherDigest_111 hl (by decide) rfl (fun ls hl => ?_)
            refine lv_iinc (v := (x8 + 1)) (lv' := [(8, .int (x8 + 1)), (4, .long ((31 * x4) + r106.toInt64)), (0, .ref (zq Z 100)), (3, .int x3), (6, .int x6), (7, .int x7)]) hx hb dX6_watcherDigest_113 hl (k := 5) rfl rfl (by decide) rfl (fun ls hl => ?_)
            refine lv_goto (tgt := 88) hx hb dX6_watcherDigest_116 (by decide) ?_
            exact ih88 σ106 x3 ((31 * x4) + r106.toInt64) x6 x7 (x8 + 1) _ _ _ h hP hS (lv_sub hl [2, 3, 1, 4, 5, 0] rfl)
      intro σ x3 x4 x6 x7 H locs ls h hP hS hl
      have h : lb_X6_watcherDigest_78 K (fx5 (lb_X6_watcherDigest_78 K) n78) σ x3 x4 x6 x7 := h
      unfold lb_X6_watcherDigest_78 at h
      refine lv_iload hx hb dX6_watcherDigest_78 (lv_at hl 4 rfl) ?_
      refine lv_iload hx hb dX6_watcherDigest_80 (lv_at hl 3 rfl) ?_
      refine lv_icmp_ge (tgt := 125) hx hb dX6_watcherDigest_82 (by decide) (fun hc => ?_) (fun hc => ?_)
      · have h := h.1 hc
        refine lv_iconst (v := 0) hx hb dX6_watcherDigest_125 (by decide) ?_
        refine lv_istore (lv' := [(7, .int 0), (0, .ref (zq Z 100)), (3, .int x3), (4, .long x4), (6, .int x6)]) hx hb dX6_watcherDigest_126 hl (by decide) rfl (fun ls hl => ?_)
        obtain ⟨n, h⟩ := h
        exact B128 n σ x3 x4 0 _ _ _ h hP hS (lv_sub hl [1, 2, 3, 0] rfl)
      · have h := h.2 hc
        refine lv_iconst (v := 0) hx hb dX6_watcherDigest_85 (by decide) ?_
        refine lv_istore (lv' := [(8, .int 0), (0, .ref (zq Z 100)), (3, .int x3), (4, .long x4), (6, .int x6), (7, .int x7)]) hx hb dX6_watcherDigest_86 hl (by decide) rfl (fun ls hl => ?_)
        obtain ⟨n, h⟩ := h
        exact B88 n σ x3 x4 x6 x7 0 _ _ _ h hP hS (lv_sub hl [1, 2, 3, 4, 5, 0] rfl)
  have B36 : ∀ (σ : SS) (x3 : Int32) (x4 : Int64) (H : Heap) (locs : List Loc) (ls : Array Slot), bl_X6_watcherDigest_36 K σ x3 x4 → PZ Z σ H → SZ Z s H locs → lv_has ls 9 [(0, .ref (zq Z 100)), (3, .int x3), (4, .long x4)] → W p l e (headSpec wsX6_watcherDigest (rm9 8 192)).room s m args below meth c H locs 0 0 (MQ below (qcL Z K s.heap.size) args s 0 0 (aZ Z s.heap.size)) (F0 m 36 ls []) := by
    intro σ x3 x4 H locs ls h hP hS hl
    unfold bl_X6_watcherDigest_36 at h
    refine lv_ldc2 (v := 31) hx hb hown lk251 dX6_watcherDigest_36 ?_
    refine lv_lload hx hb dX6_watcherDigest_39 (lv_at hl 2 rfl) ?_
    refine lv_lmul hx hb dX6_watcherDigest_41 ?_
    refine lv_aload_n hx hb dX6_watcherDigest_42 rfl (lv_at hl 0 rfl) ?_
    refine lv_iload_n hx hb dX6_watcherDigest_43 rfl (lv_at hl 1 rfl) ?_
    refine zc_VI (As := [.int x3]) (rest := [.long (31 * x4)]) ⟨hx, hb, hml, hown, hts⟩ (cwV 1 hts gX6_watcherDigest_X6_noticedOf rfl rfl rfl hd_X6_noticedOf ⟨Nat.le_of_ble_eq_true rfl, Nat.le_of_ble_eq_true rfl⟩) (mt_X6_noticedOf l hZ σ _ x3 _ h) (rc_6 hZ hE hP kd100) hE hP hS rfl hl.1 rfl (Nat.le_of_ble_eq_true rfl) dX6_watcherDigest_44 ⟨Nat.zero_le _, Nat.zero_le _⟩ (fun r44 σ44 H locs h hP hS => ?_)
    refine lv_i2l hx hb dX6_watcherDigest_47 rfl ?_
    refine lv_ladd hx hb dX6_watcherDigest_48 ?_
    refine lv_lstore (lv' := [(4, .long ((31 * x4) + r44.toInt64)), (0, .ref (zq Z 100)), (3, .int x3)]) hx hb dX6_watcherDigest_49 hl (by decide) rfl (fun ls hl => ?_)
    refine lv_ldc2 (v := 31) hx hb hown lk251 dX6_watcherDigest_51 ?_
    refine lv_lload hx hb dX6_watcherDigest_54 (lv_at hl 0 rfl) ?_
    refine lv_lmul hx hb dX6_watcherDigest_56 ?_
    refine lv_aload_n hx hb dX6_watcherDigest_57 rfl (lv_at hl 1 rfl) ?_
    refine lv_iload_n hx hb dX6_watcherDigest_58 rfl (lv_at hl 2 rfl) ?_
    refine lv_iload_n hx hb dX6_watcherDigest_59 rfl (lv_at hl 2 rfl) ?_
    refine zc_VI (As := [.int x3, .int x3]) (rest := [.long (31 * ((31 * x4) + r44.toInt64))]) ⟨hx, hb, hml, hown, hts⟩ (cwV 2 hts gX6_watcherDigest_X6_greatest rfl rfl rfl hd_X6_greatest ⟨Nat.le_of_ble_eq_true rfl, Nat.le_of_ble_eq_true rfl⟩) (mt_X6_greatest l hZ σ44 _ x3 x3 _ h) (rc_6 hZ hE hP kd100) hE hP hS rfl hl.1 rfl (Nat.le_of_ble_eq_true rfl) dX6_watcherDigest_60 ⟨Nat.zero_le _, Nat.zero_le _⟩ (fun r60 σ60 H locs h hP hS => ?_)
    refine lv_i2l hx hb dX6_watcherDigest_63 rfl ?_
    refine lv_ladd hx hb dX6_watcherDigest_64 ?_
    refine lv_lstore (lv' := [(4, .long ((31 * ((31 * x4) + r44.toInt64)) + r60.toInt64)), (0, .ref (zq Z 100)), (3, .int x3)]) hx hb dX6_watcherDigest_65 hl (by decide) rfl (fun ls hl => ?_)
    refine lv_aload_n hx hb dX6_watcherDigest_67 rfl (lv_at hl 1 rfl) ?_
    refine lv_iload_n hx hb dX6_watcherDigest_68 rfl (lv_at hl 2 rfl) ?_
    refine lv_iconst (v := 4) hx hb dX6_watcherDigest_69 (by decide) ?_
    refine zc_VI (As := [.int x3, .int 4]) (rest := []) ⟨hx, hb, hml, hown, hts⟩ (cwV 2 hts gX6_watcherDigest_X6_infoOf rfl rfl rfl hd_X6_infoOf ⟨Nat.le_of_ble_eq_true rfl, Nat.le_of_ble_eq_true rfl⟩) (mt_X6_infoOf l hZ σ60 _ x3 4 _ h) (rc_6 hZ hE hP kd100) hE hP hS rfl hl.1 rfl (Nat.le_of_ble_eq_true rfl) dX6_watcherDigest_70 ⟨Nat.zero_le _, Nat.zero_le _⟩ (fun r70 σ70 H locs h hP hS => ?_)
    refine lv_istore (lv' := [(6, .int r70), (4, .long ((31 * ((31 * x4) + r44.toInt64)) + r60.toInt64)), (0, .ref (zq Z 100)), (3, .int x3)]) hx hb dX6_watcherDigest_73 hl (by decide) rfl (fun ls hl => ?_)
    refine lv_iconst (v := 0) hx hb dX6_watcherDigest_75 (by decide) ?_
    refine lv_istore (lv' := [(7, .int 0), (6, .int r70), (4, .long ((31 * ((31 * x4) + r44.toInt64)) + r60.toInt64)), (0, .ref (zq Z 100)), (3, .int x3)]) hx hb dX6_watcherDigest_76 hl (by decide) rfl (fun ls hl => ?_)
    obtain ⟨n, h⟩ := h
    exact B78 n σ70 x3 ((31 * ((31 * x4) + r44.toInt64)) + r60.toInt64) r70 0 _ _ _ h hP hS (lv_sub hl [3, 4, 2, 1, 0] rfl)
  have B6 : ∀ (n : Nat) (σ : SS) (x3 : Int32) (x4 : Int64) (x6 : Int32) (H : Heap) (locs : List Loc) (ls : Array Slot), fx4 (lb_X6_watcherDigest_6 K) n σ x3 x4 x6 → PZ Z σ H → SZ Z s H locs → lv_has ls 9 [(0, .ref (zq Z 100)), (3, .int x3), (4, .long x4), (6, .int x6)] → W p l e (headSpec wsX6_watcherDigest (rm9 8 192)).room s m args below meth c H locs 0 0 (MQ below (qcL Z K s.heap.size) args s 0 0 (aZ Z s.heap.size)) (F0 m 6 ls []) := by
    intro n6
    induction n6 with
    | zero => intro σ x3 x4 x6 H locs ls h; exact h.elim
    | succ n6 ih6 =>
      intro σ x3 x4 x6 H locs ls h hP hS hl
      have h : lb_X6_watcherDigest_6 K (fx4 (lb_X6_watcherDigest_6 K) n6) σ x3 x4 x6 := h
      unfold lb_X6_watcherDigest_6 at h
      refine lv_iload hx hb dX6_watcherDigest_6 (lv_at hl 3 rfl) ?_
      refine lv_bipush (v := 10) hx hb dX6_watcherDigest_8 (by decide) ?_
      refine lv_icmp_ge (tgt := 36) hx hb dX6_watcherDigest_10 (by decide) (fun hc => ?_) (fun hc => ?_)
      · have h := h.1 hc
        exact B36 σ x3 x4 _ _ _ h hP hS (lv_sub hl [0, 1, 2] rfl)
      · have h := h.2 hc
        refine lv_ldc2 (v := 31) hx hb hown lk251 dX6_watcherDigest_13 ?_
        refine lv_lload hx hb dX6_watcherDigest_16 (lv_at hl 2 rfl) ?_
        refine lv_lmul hx hb dX6_watcherDigest_18 ?_
        refine lv_aload_n hx hb dX6_watcherDigest_19 rfl (lv_at hl 0 rfl) ?_
        refine lv_iload_n hx hb dX6_watcherDigest_20 rfl (lv_at hl 1 rfl) ?_
        refine lv_iload hx hb dX6_watcherDigest_21 (lv_at hl 3 rfl) ?_
        refine zc_VI (As := [.int x3, .int x6]) (rest := [.long (31 * x4)]) ⟨hx, hb, hml, hown, hts⟩ (cwV 2 hts gX6_watcherDigest_X6_infoOf rfl rfl rfl hd_X6_infoOf ⟨Nat.le_of_ble_eq_true rfl, Nat.le_of_ble_eq_true rfl⟩) (mt_X6_infoOf l hZ σ _ x3 x6 _ h) (rc_6 hZ hE hP kd100) hE hP hS rfl hl.1 rfl (Nat.le_of_ble_eq_true rfl) dX6_watcherDigest_23 ⟨Nat.zero_le _, Nat.zero_le _⟩ (fun r23 σ23 H locs h hP hS => ?_)
        refine lv_i2l hx hb dX6_watcherDigest_26 rfl ?_
        refine lv_ladd hx hb dX6_watcherDigest_27 ?_
        refine lv_lstore (lv' := [(4, .long ((31 * x4) + r23.toInt64)), (0, .ref (zq Z 100)), (3, .int x3), (6, .int x6)]) hx hb dX6_watcherDigest_28 hl (by decide) rfl (fun ls hl => ?_)
        refine lv_iinc (v := (x6 + 1)) (lv' := [(6, .int (x6 + 1)), (4, .long ((31 * x4) + r23.toInt64)), (0, .ref (zq Z 100)), (3, .int x3)]) hx hb dX6_watcherDigest_30 hl (k := 3) rfl rfl (by decide) rfl (fun ls hl => ?_)
        refine lv_goto (tgt := 6) hx hb dX6_watcherDigest_33 (by decide) ?_
        exact ih6 σ23 x3 ((31 * x4) + r23.toInt64) (x6 + 1) _ _ _ h hP hS (lv_sub hl [2, 3, 1, 0] rfl)
  unfold wp_X6_watcherDigest at h
  refine lv_lload_n hx hb dX6_watcherDigest_0 rfl (lv_at hl 1 rfl) ?_
  refine lv_lstore (lv' := [(4, .long x1), (0, .ref (zq Z 100)), (1, .long x1), (3, .int x3)]) hx hb dX6_watcherDigest_1 hl (by decide) rfl (fun ls hl => ?_)
  refine lv_iconst (v := 0) hx hb dX6_watcherDigest_3 (by decide) ?_
  refine lv_istore (lv' := [(6, .int 0), (4, .long x1), (0, .ref (zq Z 100)), (1, .long x1), (3, .int x3)]) hx hb dX6_watcherDigest_4 hl (by decide) rfl (fun ls hl => ?_)
  obtain ⟨n, h⟩ := h
  exact B6 n σ x3 x1 0 _ _ _ h hP hS (lv_sub hl [2, 4, 1, 0] rfl)
theorem hd_X6_newsDigest : yX6_newsDigest.cls = RX6 ∧ yX6_newsDigest.cls ≠ "java/lang/invoke/MethodHandle" ∧ yX6_newsDigest.cls ≠ "java/lang/invoke/VarHandle" ∧ (parseMethodDescriptor yX6_newsDigest.desc).map (fun d => d.parameters.length) = some 1 := by decide +kernel
set_option maxHeartbeats 4000000 in
set_option maxRecDepth 100000 in
theorem mt_X6_newsDigest (l : Launch) {Z : ZW} (hZ : isM Z) (σ : SS) (sz : Nat) (x1 : Int64) (K : SS → Int64 → Prop) (h : wp_X6_newsDigest σ x1 K) : mtZ l yX6_newsDigest wsX6_newsDigest (rm9 5 110) Z [.ref (zq Z 100), .long x1] σ sz (qcL Z K sz) := by
  refine Met.ofW (cc := cX6_newsDigest) (maxL := 7) (ret := (some .long)) (by decide) rfl ?_
  intro p e s m args below meth c s₁ B hml hv
  obtain ⟨hargs, hsz, hP, hE1, hE2, hE3⟩ := hv
  subst hsz
  have hE : envZ Z s := ⟨hE1, hE2, hE3⟩
  have hx := B.exec
  have hb := B.bytes
  have hr := B.returns
  have hlocks := B.notSynchronized
  have hts := atoms_spec (ws := wsX6_newsDigest) B.pre
  have hown : s.vm.findClass RX6 = some m.cls := findClass_of_methodNamed B.named
  have hS : SZ Z s s.heap [] := va_S.rf
  obtain ⟨ls, hef, hl⟩ := z_entry m hargs (n := 7) (Nat.le_of_ble_eq_true rfl)
  rw [hef]
  have hl : lv_has ls 7 [(0, .ref (zq Z 100)), (1, .long x1)] := hl
  have in6 : ∀ w ∈ u_ws RX6 TX6 28, w ∈ wsX6_newsDigest := by decide +kernel
  have lk107 := hts (.fieldLink RX6 107 "BeatDoubtsModel" "newsMany" "I") (by decide +kernel)
  have lk251 := hts (.constantLong RX6 251 (31)) (by decide +kernel)
  have lk80 := hts (.fieldLink RX6 80 "BeatDoubtsModel" "many" "I") (by decide +kernel)
  have B58 : ∀ (n : Nat) (σ : SS) (x3 : Int64) (x5 : Int32) (H : Heap) (locs : List Loc) (ls : Array Slot), fx3 (lb_X6_newsDigest_58 K) n σ x3 x5 → PZ Z σ H → SZ Z s H locs → lv_has ls 7 [(0, .ref (zq Z 100)), (3, .long x3), (5, .int x5)] → W p l e (headSpec wsX6_newsDigest (rm9 5 110)).room s m args below meth c H locs 0 0 (MQ below (qcL Z K s.heap.size) args s 0 0 (aZ Z s.heap.size)) (F0 m 58 ls []) := by
    intro n58
    induction n58 with
    | zero => intro σ x3 x5 H locs ls h; exact h.elim
    | succ n58 ih58 =>
      have B98 : ∀ (σ : SS) (x3 : Int64) (x5 : Int32) (H : Heap) (locs : List Loc) (ls : Array Slot), bl_X6_newsDigest_98 K (fx3 (lb_X6_newsDigest_58 K) n58) σ x3 x5 → PZ Z σ H → SZ Z s H locs → lv_has ls 7 [(0, .ref (zq Z 100)), (3, .long x3), (5, .int x5)] → W p l e (headSpec wsX6_newsDigest (rm9 5 110)).room s m args below meth c H locs 0 0 (MQ below (qcL Z K s.heap.size) args s 0 0 (aZ Z s.heap.size)) (F0 m 98 ls []) := by
        intro σ x3 x5 H locs ls h hP hS hl
        unfold bl_X6_newsDigest_98 at h
        refine lv_ldc2 (v := 31) hx hb hown lk251 dX6_newsDigest_98 ?_
        refine lv_lload_n hx hb dX6_newsDigest_101 rfl (lv_at hl 1 rfl) ?_
        refine lv_lmul hx hb dX6_newsDigest_102 ?_
        refine lv_aload_n hx hb dX6_newsDigest_103 rfl (lv_at hl 0 rfl) ?_
        refine lv_iload hx hb dX6_newsDigest_104 (lv_at hl 2 rfl) ?_
        refine zc_VI (As := [.int x5]) (rest := [.long (31 * x3)]) ⟨hx, hb, hml, hown, hts⟩ (cwV 1 hts gX6_newsDigest_X6_aboveBy rfl rfl rfl hd_X6_aboveBy ⟨Nat.le_of_ble_eq_true rfl, Nat.le_of_ble_eq_true rfl⟩) (mt_X6_aboveBy l hZ σ _ x5 _ h) (rc_6 hZ hE hP kd100) hE hP hS rfl hl.1 rfl (Nat.le_of_ble_eq_true rfl) dX6_newsDigest_106 ⟨Nat.zero_le _, Nat.zero_le _⟩ (fun r106 σ106 H locs h hP hS => ?_)
        refine lv_i2l hx hb dX6_newsDigest_109 rfl ?_
        refine lv_aload_n hx hb dX6_newsDigest_110 rfl (lv_at hl 0 rfl) ?_
        refine lv_iload hx hb dX6_newsDigest_111 (lv_at hl 2 rfl) ?_
        refine zc_VI (As := [.int x5]) (rest := [.long r106.toInt64, .long (31 * x3)]) ⟨hx, hb, hml, hown, hts⟩ (cwV 1 hts gX6_newsDigest_X6_belowBy rfl rfl rfl hd_X6_belowBy ⟨Nat.le_of_ble_eq_true rfl, Nat.le_of_ble_eq_true rfl⟩) (mt_X6_belowBy l hZ σ106 _ x5 _ h) (rc_6 hZ hE hP kd100) hE hP hS rfl hl.1 rfl (Nat.le_of_ble_eq_true rfl) dX6_newsDigest_113 ⟨Nat.zero_le _, Nat.zero_le _⟩ (fun r113 σ113 H locs h hP hS => ?_)
        refine lv_i2l hx hb dX6_newsDigest_116 rfl ?_
        refine lv_iconst (v := 0) hx hb dX6_newsDigest_117 (by decide) ?_
        refine zc_SL (As := [.long r106.toInt64, .long r113.toInt64, .int 0]) (rest := [.long (31 * x3)]) ⟨hx, hb, hml, hown, hts⟩ (va_cwS 3 hts gX6_newsDigest_X6_partOf rfl rfl rfl hd_X6_partOf ⟨Nat.le_of_ble_eq_true rfl, Nat.le_of_ble_eq_true rfl⟩) (mt_X6_partOf l hZ σ113 _ r106.toInt64 r113.toInt64 0 _ h) hE hP hS rfl hl.1 rfl (Nat.le_of_ble_eq_true rfl) dX6_newsDigest_118 ⟨Nat.zero_le _, Nat.zero_le _⟩ (fun r118 σ118 H locs h hP hS => ?_)
        refine lv_ladd hx hb dX6_newsDigest_121 ?_
        refine lv_lstore_n (lv' := [(3, .long ((31 * x3) + r118)), (0, .ref (zq Z 100)), (5, .int x5)]) hx hb dX6_newsDigest_122 rfl hl (by decide) rfl (fun ls hl => ?_)
        refine lv_ldc2 (v := 31) hx hb hown lk251 dX6_newsDigest_123 ?_
        refine lv_lload_n hx hb dX6_newsDigest_126 rfl (lv_at hl 0 rfl) ?_
        refine lv_lmul hx hb dX6_newsDigest_127 ?_
        refine lv_aload_n hx hb dX6_newsDigest_128 rfl (lv_at hl 1 rfl) ?_
        refine lv_iload hx hb dX6_newsDigest_129 (lv_at hl 2 rfl) ?_
        refine zc_VI (As := [.int x5]) (rest := [.long (31 * ((31 * x3) + r118))]) ⟨hx, hb, hml, hown, hts⟩ (cwV 1 hts gX6_newsDigest_X6_aboveBy rfl rfl rfl hd_X6_aboveBy ⟨Nat.le_of_ble_eq_true rfl, Nat.le_of_ble_eq_true rfl⟩) (mt_X6_aboveBy l hZ σ118 _ x5 _ h) (rc_6 hZ hE hP kd100) hE hP hS rfl hl.1 rfl (Nat.le_of_ble_eq_true rfl) dX6_newsDigest_131 ⟨Nat.zero_le _, Nat.zero_le _⟩ (fun r131 σ131 H locs h hP hS => ?_)
        refine lv_i2l hx hb dX6_newsDigest_134 rfl ?_
        refine lv_aload_n hx hb dX6_newsDigest_135 rfl (lv_at hl 1 rfl) ?_
        refine lv_iload hx hb dX6_newsDigest_136 (lv_at hl 2 rfl) ?_
        refine zc_VI (As := [.int x5]) (rest := [.long r131.toInt64, .long (31 * ((31 * x3) + r118))]) ⟨hx, hb, hml, hown, hts⟩ (cwV 1 hts gX6_newsDigest_X6_belowBy rfl rfl rfl hd_X6_belowBy ⟨Nat.le_of_ble_eq_true rfl, Nat.le_of_ble_eq_true rfl⟩) (mt_X6_belowBy l hZ σ131 _ x5 _ h) (rc_6 hZ hE hP kd100) hE hP hS rfl hl.1 rfl (Nat.le_of_ble_eq_true rfl) dX6_newsDigest_138 ⟨Nat.zero_le _, Nat.zero_le _⟩ (fun r138 σ138 H locs h hP hS => ?_)
        refine lv_i2l hx hb dX6_newsDigest_141 rfl ?_
        refine lv_iconst (v := 1) hx hb dX6_newsDigest_142 (by decide) ?_
        refine zc_SL (As := [.long r131.toInt64, .long r138.toInt64, .int 1]) (rest := [.long (31 * ((31 * x3) + r118))]) ⟨hx, hb, hml, hown, hts⟩ (va_cwS 3 hts gX6_newsDigest_X6_partOf rfl rfl rfl hd_X6_partOf ⟨Nat.le_of_ble_eq_true rfl, Nat.le_of_ble_eq_true rfl⟩) (mt_X6_partOf l hZ σ138 _ r131.toInt64 r138.toInt64 1 _ h) hE hP hS rfl hl.1 rfl (Nat.le_of_ble_eq_true rfl) dX6_newsDigest_143 ⟨Nat.zero_le _, Nat.zero_le _⟩ (fun r143 σ143 H locs h hP hS => ?_)
        refine lv_ladd hx hb dX6_newsDigest_146 ?_
        refine lv_lstore_n (lv' := [(3, .long ((31 * ((31 * x3) + r118)) + r143)), (0, .ref (zq Z 100)), (5, .int x5)]) hx hb dX6_newsDigest_147 rfl hl (by decide) rfl (fun ls hl => ?_)
        refine lv_iinc (v := (x5 + 1)) (lv' := [(5, .int (x5 + 1)), (3, .long ((31 * ((31 * x3) + r118)) + r143)), (0, .ref (zq Z 100))]) hx hb dX6_newsDigest_148 hl (k := 2) rfl rfl (by decide) rfl (fun ls hl => ?_)
        refine lv_goto (tgt := 58) hx hb dX6_newsDigest_151 (by decide) ?_
        exact ih58 σ143 ((31 * ((31 * x3) + r118)) + r143) (x5 + 1) _ _ _ h hP hS (lv_sub hl [2, 1, 0] rfl)
      have B70 : ∀ (n : Nat) (σ : SS) (x3 : Int64) (x5 : Int32) (x6 : Int32) (H : Heap) (locs : List Loc) (ls : Array Slot), fx4 (lb_X6_newsDigest_70 K (fx3 (lb_X6_newsDigest_58 K) n58)) n σ x3 x5 x6 → PZ Z σ H → SZ Z s H locs → lv_has ls 7 [(0, .ref (zq Z 100)), (3, .long x3), (5, .int x5), (6, .int x6)] → W p l e (headSpec wsX6_newsDigest (rm9 5 110)).room s m args below meth c H locs 0 0 (MQ below (qcL Z K s.heap.size) args s 0 0 (aZ Z s.heap.size)) (F0 m 70 ls []) := by
        intro n70
        induction n70 with
        | zero => intro σ x3 x5 x6 H locs ls h; exact h.elim
        | succ n70 ih70 =>
          intro σ x3 x5 x6 H locs ls h hP hS hl
          have h : lb_X6_newsDigest_70 K (fx3 (lb_X6_newsDigest_58 K) n58) (fx4 (lb_X6_newsDigest_70 K (fx3 (lb_X6_newsDigest_58 K) n58)) n70) σ x3 x5 x6 := h
          unfold lb_X6_newsDigest_70 at h
          refine lv_iload hx hb dX6_newsDigest_70 (lv_at hl 3 rfl) ?_
          refine lv_iconst (v := 3) hx hb dX6_newsDigest_72 (by decide) ?_
          refine lv_icmp_ge (tgt := 98) hx hb dX6_newsDigest_73 (by decide) (fun hc => ?_) (fun hc => ?_)
          · have h := h.1 hc
            exact B98 σ x3 x5 _ _ _ h hP hS (lv_sub hl [0, 1, 2] rfl)
          · have h := h.2 hc
            refine lv_ldc2 (v := 31) hx hb hown lk251 dX6_newsDigest_76 ?_
            refine lv_lload_n hx hb dX6_newsDigest_79 rfl (lv_at hl 1 rfl) ?_
            refine lv_lmul hx hb dX6_newsDigest_80 ?_
            refine lv_aload_n hx hb dX6_newsDigest_81 rfl (lv_at hl 0 rfl) ?_
            refine lv_iload hx hb dX6_newsDigest_82 (lv_at hl 2 rfl) ?_
            refine lv_iload hx hb dX6_newsDigest_84 (lv_at hl 3 rfl) ?_
            refine zc_VI (As := [.int x5, .int x6]) (rest := [.long (31 * x3)]) ⟨hx, hb, hml, hown, hts⟩ (cwV 2 hts gX6_newsDigest_X6_newsOf rfl rfl rfl hd_X6_newsOf ⟨Nat.le_of_ble_eq_true rfl, Nat.le_of_ble_eq_true rfl⟩) (mt_X6_newsOf l hZ σ _ x5 x6 _ h) (rc_6 hZ hE hP kd100) hE hP hS rfl hl.1 rfl (Nat.le_of_ble_eq_true rfl) dX6_newsDigest_86 ⟨Nat.zero_le _, Nat.zero_le _⟩ (fun r86 σ86 H locs h hP hS => ?_)
            refine lv_i2l hx hb dX6_newsDigest_89 rfl ?_
            refine lv_ladd hx hb dX6_newsDigest_90 ?_
            refine lv_lstore_n (lv' := [(3, .long ((31 * x3) + r86.toInt64)), (0, .ref (zq Z 100)), (5, .int x5), (6, .int x6)]) hx hb dX6_newsDigest_91 rfl hl (by decide) rfl (fun ls hl => ?_)
            refine lv_iinc (v := (x6 + 1)) (lv' := [(6, .int (x6 + 1)), (3, .long ((31 * x3) + r86.toInt64)), (0, .ref (zq Z 100)), (5, .int x5)]) hx hb dX6_newsDigest_92 hl (k := 3) rfl rfl (by decide) rfl (fun ls hl => ?_)
            refine lv_goto (tgt := 70) hx hb dX6_newsDigest_95 (by decide) ?_
            exact ih70 σ86 ((31 * x3) + r86.toInt64) x5 (x6 + 1) _ _ _ h hP hS (lv_sub hl [2, 1, 3, 0] rfl)
      intro σ x3 x5 H locs ls h hP hS hl
      have h : lb_X6_newsDigest_58 K (fx3 (lb_X6_newsDigest_58 K) n58) σ x3 x5 := h
      unfold lb_X6_newsDigest_58 at h
      refine lv_iload hx hb dX6_newsDigest_58 (lv_at hl 2 rfl) ?_
      refine lv_aload_n hx hb dX6_newsDigest_60 rfl (lv_at hl 0 rfl) ?_
      refine fg_6_7 hZ hx hb hts in6 hown hE hP kd100 lk107 dX6_newsDigest_61 ?_
      refine lv_icmp_ge (tgt := 154) hx hb dX6_newsDigest_64 (by decide) (fun hc => ?_) (fun hc => ?_)
      · have h := h.1 hc
        refine lv_lload_n hx hb dX6_newsDigest_154 rfl (lv_at hl 1 rfl) ?_
        exact zr_L hx hb hr hlocks hP hS h dX6_newsDigest_155
      · have h := h.2 hc
        refine lv_iconst (v := 0) hx hb dX6_newsDigest_67 (by decide) ?_
        refine lv_istore (lv' := [(6, .int 0), (0, .ref (zq Z 100)), (3, .long x3), (5, .int x5)]) hx hb dX6_newsDigest_68 hl (by decide) rfl (fun ls hl => ?_)
        obtain ⟨n, h⟩ := h
        exact B70 n σ x3 x5 0 _ _ _ h hP hS (lv_sub hl [1, 2, 3, 0] rfl)
  have B5 : ∀ (n : Nat) (σ : SS) (x3 : Int64) (x5 : Int32) (H : Heap) (locs : List Loc) (ls : Array Slot), fx3 (lb_X6_newsDigest_5 K) n σ x3 x5 → PZ Z σ H → SZ Z s H locs → lv_has ls 7 [(0, .ref (zq Z 100)), (3, .long x3), (5, .int x5)] → W p l e (headSpec wsX6_newsDigest (rm9 5 110)).room s m args below meth c H locs 0 0 (MQ below (qcL Z K s.heap.size) args s 0 0 (aZ Z s.heap.size)) (F0 m 5 ls []) := by
    intro n5
    induction n5 with
    | zero => intro σ x3 x5 H locs ls h; exact h.elim
    | succ n5 ih5 =>
      have B17 : ∀ (n : Nat) (σ : SS) (x3 : Int64) (x5 : Int32) (x6 : Int32) (H : Heap) (locs : List Loc) (ls : Array Slot), fx4 (lb_X6_newsDigest_17 K (fx3 (lb_X6_newsDigest_5 K) n5)) n σ x3 x5 x6 → PZ Z σ H → SZ Z s H locs → lv_has ls 7 [(0, .ref (zq Z 100)), (3, .long x3), (5, .int x5), (6, .int x6)] → W p l e (headSpec wsX6_newsDigest (rm9 5 110)).room s m args below meth c H locs 0 0 (MQ below (qcL Z K s.heap.size) args s 0 0 (aZ Z s.heap.size)) (F0 m 17 ls []) := by
        intro n17
        induction n17 with
        | zero => intro σ x3 x5 x6 H locs ls h; exact h.elim
        | succ n17 ih17 =>
          intro σ x3 x5 x6 H locs ls h hP hS hl
          have h : lb_X6_newsDigest_17 K (fx3 (lb_X6_newsDigest_5 K) n5) (fx4 (lb_X6_newsDigest_17 K (fx3 (lb_X6_newsDigest_5 K) n5)) n17) σ x3 x5 x6 := h
          unfold lb_X6_newsDigest_17 at h
          refine lv_iload hx hb dX6_newsDigest_17 (lv_at hl 3 rfl) ?_
          refine lv_iconst (v := 3) hx hb dX6_newsDigest_19 (by decide) ?_
          refine lv_icmp_ge (tgt := 45) hx hb dX6_newsDigest_20 (by decide) (fun hc => ?_) (fun hc => ?_)
          · have h := h.1 hc
            refine lv_iinc (v := (x5 + 1)) (lv' := [(5, .int (x5 + 1)), (0, .ref (zq Z 100)), (3, .long x3), (6, .int x6)]) hx hb dX6_newsDigest_45 hl (k := 2) rfl rfl (by decide) rfl (fun ls hl => ?_)
            refine lv_goto (tgt := 5) hx hb dX6_newsDigest_48 (by decide) ?_
            exact ih5 σ x3 (x5 + 1) _ _ _ h hP hS (lv_sub hl [1, 2, 0] rfl)
          · have h := h.2 hc
            refine lv_ldc2 (v := 31) hx hb hown lk251 dX6_newsDigest_23 ?_
            refine lv_lload_n hx hb dX6_newsDigest_26 rfl (lv_at hl 1 rfl) ?_
            refine lv_lmul hx hb dX6_newsDigest_27 ?_
            refine lv_aload_n hx hb dX6_newsDigest_28 rfl (lv_at hl 0 rfl) ?_
            refine lv_iload hx hb dX6_newsDigest_29 (lv_at hl 2 rfl) ?_
            refine lv_iload hx hb dX6_newsDigest_31 (lv_at hl 3 rfl) ?_
            refine zc_VI (As := [.int x5, .int x6]) (rest := [.long (31 * x3)]) ⟨hx, hb, hml, hown, hts⟩ (cwV 2 hts gX6_newsDigest_X6_cameOf rfl rfl rfl hd_X6_cameOf ⟨Nat.le_of_ble_eq_true rfl, Nat.le_of_ble_eq_true rfl⟩) (mt_X6_cameOf l hZ σ _ x5 x6 _ h) (rc_6 hZ hE hP kd100) hE hP hS rfl hl.1 rfl (Nat.le_of_ble_eq_true rfl) dX6_newsDigest_33 ⟨Nat.zero_le _, Nat.zero_le _⟩ (fun r33 σ33 H locs h hP hS => ?_)
            refine lv_i2l hx hb dX6_newsDigest_36 rfl ?_
            refine lv_ladd hx hb dX6_newsDigest_37 ?_
            refine lv_lstore_n (lv' := [(3, .long ((31 * x3) + r33.toInt64)), (0, .ref (zq Z 100)), (5, .int x5), (6, .int x6)]) hx hb dX6_newsDigest_38 rfl hl (by decide) rfl (fun ls hl => ?_)
            refine lv_iinc (v := (x6 + 1)) (lv' := [(6, .int (x6 + 1)), (3, .long ((31 * x3) + r33.toInt64)), (0, .ref (zq Z 100)), (5, .int x5)]) hx hb dX6_newsDigest_39 hl (k := 3) rfl rfl (by decide) rfl (fun ls hl => ?_)
            refine lv_goto (tgt := 17) hx hb dX6_newsDigest_42 (by decide) ?_
            exact ih17 σ33 ((31 * x3) + r33.toInt64) x5 (x6 + 1) _ _ _ h hP hS (lv_sub hl [2, 1, 3, 0] rfl)
      intro σ x3 x5 H locs ls h hP hS hl
      have h : lb_X6_newsDigest_5 K (fx3 (lb_X6_newsDigest_5 K) n5) σ x3 x5 := h
      unfold lb_X6_newsDigest_5 at h
      refine lv_iload hx hb dX6_newsDigest_5 (lv_at hl 2 rfl) ?_
      refine lv_aload_n hx hb dX6_newsDigest_7 rfl (lv_at hl 0 rfl) ?_
      refine fg_6_1 hZ hx hb hts in6 hown hE hP kd100 lk80 dX6_newsDigest_8 ?_
      refine lv_icmp_ge (tgt := 51) hx hb dX6_newsDigest_11 (by decide) (fun hc => ?_) (fun hc => ?_)
      · have h := h.1 hc
        refine lv_aload_n hx hb dX6_newsDigest_51 rfl (lv_at hl 0 rfl) ?_
        refine zc_VV (As := []) (rest := []) ⟨hx, hb, hml, hown, hts⟩ (cwV 0 hts gX6_newsDigest_X6_findsNews rfl rfl rfl hd_X6_findsNews ⟨Nat.le_of_ble_eq_true rfl, Nat.le_of_ble_eq_true rfl⟩) (mt_X6_findsNews l hZ σ _  _ h) (rc_6 hZ hE hP kd100) hE hP hS rfl hl.1 rfl (Nat.le_of_ble_eq_true rfl) dX6_newsDigest_52 ⟨Nat.zero_le _, Nat.zero_le _⟩ (fun σ52 H locs h hP hS => ?_)
        refine lv_iconst (v := 0) hx hb dX6_newsDigest_55 (by decide) ?_
        refine lv_istore (lv' := [(5, .int 0), (0, .ref (zq Z 100)), (3, .long x3)]) hx hb dX6_newsDigest_56 hl (by decide) rfl (fun ls hl => ?_)
        obtain ⟨n, h⟩ := h
        exact B58 n σ52 x3 0 _ _ _ h hP hS (lv_sub hl [1, 2, 0] rfl)
      · have h := h.2 hc
        refine lv_iconst (v := 0) hx hb dX6_newsDigest_14 (by decide) ?_
        refine lv_istore (lv' := [(6, .int 0), (0, .ref (zq Z 100)), (3, .long x3), (5, .int x5)]) hx hb dX6_newsDigest_15 hl (by decide) rfl (fun ls hl => ?_)
        obtain ⟨n, h⟩ := h
        exact B17 n σ x3 x5 0 _ _ _ h hP hS (lv_sub hl [1, 2, 3, 0] rfl)
  unfold wp_X6_newsDigest at h
  refine lv_lload_n hx hb dX6_newsDigest_0 rfl (lv_at hl 1 rfl) ?_
  refine lv_lstore_n (lv' := [(3, .long x1), (0, .ref (zq Z 100)), (1, .long x1)]) hx hb dX6_newsDigest_1 rfl hl (by decide) rfl (fun ls hl => ?_)
  refine lv_iconst (v := 0) hx hb dX6_newsDigest_2 (by decide) ?_
  refine lv_istore (lv' := [(5, .int 0), (3, .long x1), (0, .ref (zq Z 100)), (1, .long x1)]) hx hb dX6_newsDigest_3 hl (by decide) rfl (fun ls hl => ?_)
  obtain ⟨n, h⟩ := h
  exact B5 n σ x1 0 _ _ _ h hP hS (lv_sub hl [2, 1, 0] rfl)
theorem hd_X6_digest : yX6_digest.cls = RX6 ∧ yX6_digest.cls ≠ "java/lang/invoke/MethodHandle" ∧ yX6_digest.cls ≠ "java/lang/invoke/VarHandle" ∧ (parseMethodDescriptor yX6_digest.desc).map (fun d => d.parameters.length) = some 0 := by decide +kernel
set_option maxHeartbeats 4000000 in
set_option maxRecDepth 100000 in
theorem mt_X6_digest (l : Launch) {Z : ZW} (hZ : isM Z) (σ : SS) (sz : Nat) (K : SS → Int64 → Prop) (h : wp_X6_digest σ K) : mtZ l yX6_digest wsX6_digest (rm9 10 235) Z [.ref (zq Z 100)] σ sz (qcL Z K sz) := by
  refine Met.ofW (cc := cX6_digest) (maxL := 4) (ret := (some .long)) (by decide) rfl ?_
  intro p e s m args below meth c s₁ B hml hv
  obtain ⟨hargs, hsz, hP, hE1, hE2, hE3⟩ := hv
  subst hsz
  have hE : envZ Z s := ⟨hE1, hE2, hE3⟩
  have hx := B.exec
  have hb := B.bytes
  have hr := B.returns
  have hlocks := B.notSynchronized
  have hts := atoms_spec (ws := wsX6_digest) B.pre
  have hown : s.vm.findClass RX6 = some m.cls := findClass_of_methodNamed B.named
  have hS : SZ Z s s.heap [] := va_S.rf
  obtain ⟨ls, hef, hl⟩ := z_entry m hargs (n := 4) (Nat.le_of_ble_eq_true rfl)
  rw [hef]
  have hl : lv_has ls 4 [(0, .ref (zq Z 100))] := hl
  have in6 : ∀ w ∈ u_ws RX6 TX6 28, w ∈ wsX6_digest := by decide +kernel
  have lk157 := hts (.fieldLink RX6 157 "BeatDoubtsModel" "watchers" "I") (by decide +kernel)
  have lk251 := hts (.constantLong RX6 251 (31)) (by decide +kernel)
  have lk253 := hts (.constantLong RX6 253 (17)) (by decide +kernel)
  have B155 : ∀ (σ : SS) (x1 : Int64) (H : Heap) (locs : List Loc) (ls : Array Slot), bl_X6_digest_155 K σ x1 → PZ Z σ H → SZ Z s H locs → lv_has ls 4 [(0, .ref (zq Z 100)), (1, .long x1)] → W p l e (headSpec wsX6_digest (rm9 10 235)).room s m args below meth c H locs 0 0 (MQ below (qcL Z K s.heap.size) args s 0 0 (aZ Z s.heap.size)) (F0 m 155 ls []) := by
    intro σ x1 H locs ls h hP hS hl
    unfold bl_X6_digest_155 at h
    refine lv_ldc2 (v := 31) hx hb hown lk251 dX6_digest_155 ?_
    refine lv_lload_n hx hb dX6_digest_158 rfl (lv_at hl 1 rfl) ?_
    refine lv_lmul hx hb dX6_digest_159 ?_
    refine lv_aload_n hx hb dX6_digest_160 rfl (lv_at hl 0 rfl) ?_
    refine zc_VI (As := []) (rest := [.long (31 * x1)]) ⟨hx, hb, hml, hown, hts⟩ (cwV 0 hts gX6_digest_X6_sharedNow rfl rfl rfl hd_X6_sharedNow ⟨Nat.le_of_ble_eq_true rfl, Nat.le_of_ble_eq_true rfl⟩) (mt_X6_sharedNow l hZ σ _  _ h) (rc_6 hZ hE hP kd100) hE hP hS rfl hl.1 rfl (Nat.le_of_ble_eq_true rfl) dX6_digest_161 ⟨Nat.zero_le _, Nat.zero_le _⟩ (fun r161 σ161 H locs h hP hS => ?_)
    refine lv_i2l hx hb dX6_digest_164 rfl ?_
    refine lv_ladd hx hb dX6_digest_165 ?_
    refine lv_lstore_n (lv' := [(1, .long ((31 * x1) + r161.toInt64)), (0, .ref (zq Z 100))]) hx hb dX6_digest_166 rfl hl (by decide) rfl (fun ls hl => ?_)
    refine lv_ldc2 (v := 31) hx hb hown lk251 dX6_digest_167 ?_
    refine lv_lload_n hx hb dX6_digest_170 rfl (lv_at hl 0 rfl) ?_
    refine lv_lmul hx hb dX6_digest_171 ?_
    refine lv_aload_n hx hb dX6_digest_172 rfl (lv_at hl 1 rfl) ?_
    refine zc_VI (As := []) (rest := [.long (31 * ((31 * x1) + r161.toInt64))]) ⟨hx, hb, hml, hown, hts⟩ (cwV 0 hts gX6_digest_X6_savedNow rfl rfl rfl hd_X6_savedNow ⟨Nat.le_of_ble_eq_true rfl, Nat.le_of_ble_eq_true rfl⟩) (mt_X6_savedNow l hZ σ161 _  _ h) (rc_6 hZ hE hP kd100) hE hP hS rfl hl.1 rfl (Nat.le_of_ble_eq_true rfl) dX6_digest_173 ⟨Nat.zero_le _, Nat.zero_le _⟩ (fun r173 σ173 H locs h hP hS => ?_)
    refine lv_i2l hx hb dX6_digest_176 rfl ?_
    refine lv_ladd hx hb dX6_digest_177 ?_
    exact zr_L hx hb hr hlocks hP hS h dX6_digest_178
  have B116 : ∀ (n : Nat) (σ : SS) (x1 : Int64) (x3 : Int32) (H : Heap) (locs : List Loc) (ls : Array Slot), fx3 (lb_X6_digest_116 K) n σ x1 x3 → PZ Z σ H → SZ Z s H locs → lv_has ls 4 [(0, .ref (zq Z 100)), (1, .long x1), (3, .int x3)] → W p l e (headSpec wsX6_digest (rm9 10 235)).room s m args below meth c H locs 0 0 (MQ below (qcL Z K s.heap.size) args s 0 0 (aZ Z s.heap.size)) (F0 m 116 ls []) := by
    intro n116
    induction n116 with
    | zero => intro σ x1 x3 H locs ls h; exact h.elim
    | succ n116 ih116 =>
      intro σ x1 x3 H locs ls h hP hS hl
      have h : lb_X6_digest_116 K (fx3 (lb_X6_digest_116 K) n116) σ x1 x3 := h
      unfold lb_X6_digest_116 at h
      refine lv_iload_n hx hb dX6_digest_116 rfl (lv_at hl 2 rfl) ?_
      refine lv_iconst (v := 3) hx hb dX6_digest_117 (by decide) ?_
      refine lv_icmp_ge (tgt := 155) hx hb dX6_digest_118 (by decide) (fun hc => ?_) (fun hc => ?_)
      · have h := h.1 hc
        exact B155 σ x1 _ _ _ h hP hS (lv_sub hl [0, 1] rfl)
      · have h := h.2 hc
        refine lv_ldc2 (v := 31) hx hb hown lk251 dX6_digest_121 ?_
        refine lv_lload_n hx hb dX6_digest_124 rfl (lv_at hl 1 rfl) ?_
        refine lv_lmul hx hb dX6_digest_125 ?_
        refine lv_aload_n hx hb dX6_digest_126 rfl (lv_at hl 0 rfl) ?_
        refine lv_iload_n hx hb dX6_digest_127 rfl (lv_at hl 2 rfl) ?_
        refine lv_iconst (v := 0) hx hb dX6_digest_128 (by decide) ?_
        refine zc_VI (As := [.int x3, .int 0]) (rest := [.long (31 * x1)]) ⟨hx, hb, hml, hown, hts⟩ (cwV 2 hts gX6_digest_X6_leastOf rfl rfl rfl hd_X6_leastOf ⟨Nat.le_of_ble_eq_true rfl, Nat.le_of_ble_eq_true rfl⟩) (mt_X6_leastOf l hZ σ _ x3 0 _ h) (rc_6 hZ hE hP kd100) hE hP hS rfl hl.1 rfl (Nat.le_of_ble_eq_true rfl) dX6_digest_129 ⟨Nat.zero_le _, Nat.zero_le _⟩ (fun r129 σ129 H locs h hP hS => ?_)
        refine lv_i2l hx hb dX6_digest_132 rfl ?_
        refine lv_ladd hx hb dX6_digest_133 ?_
        refine lv_lstore_n (lv' := [(1, .long ((31 * x1) + r129.toInt64)), (0, .ref (zq Z 100)), (3, .int x3)]) hx hb dX6_digest_134 rfl hl (by decide) rfl (fun ls hl => ?_)
        refine lv_ldc2 (v := 31) hx hb hown lk251 dX6_digest_135 ?_
        refine lv_lload_n hx hb dX6_digest_138 rfl (lv_at hl 0 rfl) ?_
        refine lv_lmul hx hb dX6_digest_139 ?_
        refine lv_aload_n hx hb dX6_digest_140 rfl (lv_at hl 1 rfl) ?_
        refine lv_iload_n hx hb dX6_digest_141 rfl (lv_at hl 2 rfl) ?_
        refine lv_iconst (v := 2) hx hb dX6_digest_142 (by decide) ?_
        refine zc_VI (As := [.int x3, .int 2]) (rest := [.long (31 * ((31 * x1) + r129.toInt64))]) ⟨hx, hb, hml, hown, hts⟩ (cwV 2 hts gX6_digest_X6_leastOf rfl rfl rfl hd_X6_leastOf ⟨Nat.le_of_ble_eq_true rfl, Nat.le_of_ble_eq_true rfl⟩) (mt_X6_leastOf l hZ σ129 _ x3 2 _ h) (rc_6 hZ hE hP kd100) hE hP hS rfl hl.1 rfl (Nat.le_of_ble_eq_true rfl) dX6_digest_143 ⟨Nat.zero_le _, Nat.zero_le _⟩ (fun r143 σ143 H locs h hP hS => ?_)
        refine lv_i2l hx hb dX6_digest_146 rfl ?_
        refine lv_ladd hx hb dX6_digest_147 ?_
        refine lv_lstore_n (lv' := [(1, .long ((31 * ((31 * x1) + r129.toInt64)) + r143.toInt64)), (0, .ref (zq Z 100)), (3, .int x3)]) hx hb dX6_digest_148 rfl hl (by decide) rfl (fun ls hl => ?_)
        refine lv_iinc (v := (x3 + 1)) (lv' := [(3, .int (x3 + 1)), (1, .long ((31 * ((31 * x1) + r129.toInt64)) + r143.toInt64)), (0, .ref (zq Z 100))]) hx hb dX6_digest_149 hl (k := 2) rfl rfl (by decide) rfl (fun ls hl => ?_)
        refine lv_goto (tgt := 116) hx hb dX6_digest_152 (by decide) ?_
        exact ih116 σ143 ((31 * ((31 * x1) + r129.toInt64)) + r143.toInt64) (x3 + 1) _ _ _ h hP hS (lv_sub hl [2, 1, 0] rfl)
  have B62 : ∀ (n : Nat) (σ : SS) (x1 : Int64) (x3 : Int32) (H : Heap) (locs : List Loc) (ls : Array Slot), fx3 (lb_X6_digest_62 K) n σ x1 x3 → PZ Z σ H → SZ Z s H locs → lv_has ls 4 [(0, .ref (zq Z 100)), (1, .long x1), (3, .int x3)] → W p l e (headSpec wsX6_digest (rm9 10 235)).room s m args below meth c H locs 0 0 (MQ below (qcL Z K s.heap.size) args s 0 0 (aZ Z s.heap.size)) (F0 m 62 ls []) := by
    intro n62
    induction n62 with
    | zero => intro σ x1 x3 H locs ls h; exact h.elim
    | succ n62 ih62 =>
      intro σ x1 x3 H locs ls h hP hS hl
      have h : lb_X6_digest_62 K (fx3 (lb_X6_digest_62 K) n62) σ x1 x3 := h
      unfold lb_X6_digest_62 at h
      refine lv_iload_n hx hb dX6_digest_62 rfl (lv_at hl 2 rfl) ?_
      refine lv_sipush (v := 1000) hx hb dX6_digest_63 (by decide) ?_
      refine lv_icmp_gt (tgt := 114) hx hb dX6_digest_66 (by decide) (fun hc => ?_) (fun hc => ?_)
      · have h := h.1 hc
        refine lv_iconst (v := 0) hx hb dX6_digest_114 (by decide) ?_
        refine lv_istore_n (lv' := [(3, .int 0), (0, .ref (zq Z 100)), (1, .long x1)]) hx hb dX6_digest_115 rfl hl (by decide) rfl (fun ls hl => ?_)
        obtain ⟨n, h⟩ := h
        exact B116 n σ x1 0 _ _ _ h hP hS (lv_sub hl [1, 2, 0] rfl)
      · have h := h.2 hc
        refine lv_ldc2 (v := 31) hx hb hown lk251 dX6_digest_69 ?_
        refine lv_lload_n hx hb dX6_digest_72 rfl (lv_at hl 1 rfl) ?_
        refine lv_lmul hx hb dX6_digest_73 ?_
        refine lv_aload_n hx hb dX6_digest_74 rfl (lv_at hl 0 rfl) ?_
        refine lv_iload_n hx hb dX6_digest_75 rfl (lv_at hl 2 rfl) ?_
        refine zc_VI (As := [.int x3]) (rest := [.long (31 * x1)]) ⟨hx, hb, hml, hown, hts⟩ (cwV 1 hts gX6_digest_X6_doubtsAt rfl rfl rfl hd_X6_doubtsAt ⟨Nat.le_of_ble_eq_true rfl, Nat.le_of_ble_eq_true rfl⟩) (mt_X6_doubtsAt l hZ σ _ x3 _ h) (rc_6 hZ hE hP kd100) hE hP hS rfl hl.1 rfl (Nat.le_of_ble_eq_true rfl) dX6_digest_76 ⟨Nat.zero_le _, Nat.zero_le _⟩ (fun r76 σ76 H locs h hP hS => ?_)
        refine lv_i2l hx hb dX6_digest_79 rfl ?_
        refine lv_ladd hx hb dX6_digest_80 ?_
        refine lv_lstore_n (lv' := [(1, .long ((31 * x1) + r76.toInt64)), (0, .ref (zq Z 100)), (3, .int x3)]) hx hb dX6_digest_81 rfl hl (by decide) rfl (fun ls hl => ?_)
        refine lv_ldc2 (v := 31) hx hb hown lk251 dX6_digest_82 ?_
        refine lv_lload_n hx hb dX6_digest_85 rfl (lv_at hl 0 rfl) ?_
        refine lv_lmul hx hb dX6_digest_86 ?_
        refine lv_aload_n hx hb dX6_digest_87 rfl (lv_at hl 1 rfl) ?_
        refine lv_iload_n hx hb dX6_digest_88 rfl (lv_at hl 2 rfl) ?_
        refine lv_iconst (v := 0) hx hb dX6_digest_89 (by decide) ?_
        refine zc_VL (As := [.int x3, .int 0]) (rest := [.long (31 * ((31 * x1) + r76.toInt64))]) ⟨hx, hb, hml, hown, hts⟩ (cwV 2 hts gX6_digest_X6_scoreOf rfl rfl rfl hd_X6_scoreOf ⟨Nat.le_of_ble_eq_true rfl, Nat.le_of_ble_eq_true rfl⟩) (mt_X6_scoreOf l hZ σ76 _ x3 0 _ h) (rc_6 hZ hE hP kd100) hE hP hS rfl hl.1 rfl (Nat.le_of_ble_eq_true rfl) dX6_digest_90 ⟨Nat.zero_le _, Nat.zero_le _⟩ (fun r90 σ90 H locs h hP hS => ?_)
        refine lv_ladd hx hb dX6_digest_93 ?_
        refine lv_lstore_n (lv' := [(1, .long ((31 * ((31 * x1) + r76.toInt64)) + r90)), (0, .ref (zq Z 100)), (3, .int x3)]) hx hb dX6_digest_94 rfl hl (by decide) rfl (fun ls hl => ?_)
        refine lv_ldc2 (v := 31) hx hb hown lk251 dX6_digest_95 ?_
        refine lv_lload_n hx hb dX6_digest_98 rfl (lv_at hl 0 rfl) ?_
        refine lv_lmul hx hb dX6_digest_99 ?_
        refine lv_aload_n hx hb dX6_digest_100 rfl (lv_at hl 1 rfl) ?_
        refine lv_iload_n hx hb dX6_digest_101 rfl (lv_at hl 2 rfl) ?_
        refine lv_iconst (v := 1) hx hb dX6_digest_102 (by decide) ?_
        refine zc_VL (As := [.int x3, .int 1]) (rest := [.long (31 * ((31 * ((31 * x1) + r76.toInt64)) + r90))]) ⟨hx, hb, hml, hown, hts⟩ (cwV 2 hts gX6_digest_X6_scoreOf rfl rfl rfl hd_X6_scoreOf ⟨Nat.le_of_ble_eq_true rfl, Nat.le_of_ble_eq_true rfl⟩) (mt_X6_scoreOf l hZ σ90 _ x3 1 _ h) (rc_6 hZ hE hP kd100) hE hP hS rfl hl.1 rfl (Nat.le_of_ble_eq_true rfl) dX6_digest_103 ⟨Nat.zero_le _, Nat.zero_le _⟩ (fun r103 σ103 H locs h hP hS => ?_)
        refine lv_ladd hx hb dX6_digest_106 ?_
        refine lv_lstore_n (lv' := [(1, .long ((31 * ((31 * ((31 * x1) + r76.toInt64)) + r90)) + r103)), (0, .ref (zq Z 100)), (3, .int x3)]) hx hb dX6_digest_107 rfl hl (by decide) rfl (fun ls hl => ?_)
        refine lv_iinc (v := (x3 + 50)) (lv' := [(3, .int (x3 + 50)), (1, .long ((31 * ((31 * ((31 * x1) + r76.toInt64)) + r90)) + r103)), (0, .ref (zq Z 100))]) hx hb dX6_digest_108 hl (k := 2) rfl rfl (by decide) rfl (fun ls hl => ?_)
        refine lv_goto (tgt := 62) hx hb dX6_digest_111 (by decide) ?_
        exact ih62 σ103 ((31 * ((31 * ((31 * x1) + r76.toInt64)) + r90)) + r103) (x3 + 50) _ _ _ h hP hS (lv_sub hl [2, 1, 0] rfl)
  have B39 : ∀ (n : Nat) (σ : SS) (x1 : Int64) (x3 : Int32) (H : Heap) (locs : List Loc) (ls : Array Slot), fx3 (lb_X6_digest_39 K) n σ x1 x3 → PZ Z σ H → SZ Z s H locs → lv_has ls 4 [(0, .ref (zq Z 100)), (1, .long x1), (3, .int x3)] → W p l e (headSpec wsX6_digest (rm9 10 235)).room s m args below meth c H locs 0 0 (MQ below (qcL Z K s.heap.size) args s 0 0 (aZ Z s.heap.size)) (F0 m 39 ls []) := by
    intro n39
    induction n39 with
    | zero => intro σ x1 x3 H locs ls h; exact h.elim
    | succ n39 ih39 =>
      intro σ x1 x3 H locs ls h hP hS hl
      have h : lb_X6_digest_39 K (fx3 (lb_X6_digest_39 K) n39) σ x1 x3 := h
      unfold lb_X6_digest_39 at h
      refine lv_iload_n hx hb dX6_digest_39 rfl (lv_at hl 2 rfl) ?_
      refine lv_aload_n hx hb dX6_digest_40 rfl (lv_at hl 0 rfl) ?_
      refine fg_6_12 hZ hx hb hts in6 hown hE hP kd100 lk157 dX6_digest_41 ?_
      refine lv_icmp_ge (tgt := 60) hx hb dX6_digest_44 (by decide) (fun hc => ?_) (fun hc => ?_)
      · have h := h.1 hc
        refine lv_iconst (v := 0) hx hb dX6_digest_60 (by decide) ?_
        refine lv_istore_n (lv' := [(3, .int 0), (0, .ref (zq Z 100)), (1, .long x1)]) hx hb dX6_digest_61 rfl hl (by decide) rfl (fun ls hl => ?_)
        obtain ⟨n, h⟩ := h
        exact B62 n σ x1 0 _ _ _ h hP hS (lv_sub hl [1, 2, 0] rfl)
      · have h := h.2 hc
        refine lv_aload_n hx hb dX6_digest_47 rfl (lv_at hl 0 rfl) ?_
        refine lv_lload_n hx hb dX6_digest_48 rfl (lv_at hl 1 rfl) ?_
        refine lv_iload_n hx hb dX6_digest_49 rfl (lv_at hl 2 rfl) ?_
        refine zc_VL (As := [.long x1, .int x3]) (rest := []) ⟨hx, hb, hml, hown, hts⟩ (cwV 2 hts gX6_digest_X6_watcherDigest rfl rfl rfl hd_X6_watcherDigest ⟨Nat.le_of_ble_eq_true rfl, Nat.le_of_ble_eq_true rfl⟩) (mt_X6_watcherDigest l hZ σ _ x1 x3 _ h) (rc_6 hZ hE hP kd100) hE hP hS rfl hl.1 rfl (Nat.le_of_ble_eq_true rfl) dX6_digest_50 ⟨Nat.zero_le _, Nat.zero_le _⟩ (fun r50 σ50 H locs h hP hS => ?_)
        refine lv_lstore_n (lv' := [(1, .long r50), (0, .ref (zq Z 100)), (3, .int x3)]) hx hb dX6_digest_53 rfl hl (by decide) rfl (fun ls hl => ?_)
        refine lv_iinc (v := (x3 + 1)) (lv' := [(3, .int (x3 + 1)), (1, .long r50), (0, .ref (zq Z 100))]) hx hb dX6_digest_54 hl (k := 2) rfl rfl (by decide) rfl (fun ls hl => ?_)
        refine lv_goto (tgt := 39) hx hb dX6_digest_57 (by decide) ?_
        exact ih39 σ50 r50 (x3 + 1) _ _ _ h hP hS (lv_sub hl [2, 1, 0] rfl)
  have B6 : ∀ (n : Nat) (σ : SS) (x1 : Int64) (x3 : Int32) (H : Heap) (locs : List Loc) (ls : Array Slot), fx3 (lb_X6_digest_6 K) n σ x1 x3 → PZ Z σ H → SZ Z s H locs → lv_has ls 4 [(0, .ref (zq Z 100)), (1, .long x1), (3, .int x3)] → W p l e (headSpec wsX6_digest (rm9 10 235)).room s m args below meth c H locs 0 0 (MQ below (qcL Z K s.heap.size) args s 0 0 (aZ Z s.heap.size)) (F0 m 6 ls []) := by
    intro n6
    induction n6 with
    | zero => intro σ x1 x3 H locs ls h; exact h.elim
    | succ n6 ih6 =>
      intro σ x1 x3 H locs ls h hP hS hl
      have h : lb_X6_digest_6 K (fx3 (lb_X6_digest_6 K) n6) σ x1 x3 := h
      unfold lb_X6_digest_6 at h
      refine lv_iload_n hx hb dX6_digest_6 rfl (lv_at hl 2 rfl) ?_
      refine lv_bipush (v := 8) hx hb dX6_digest_7 (by decide) ?_
      refine lv_icmp_ge (tgt := 31) hx hb dX6_digest_9 (by decide) (fun hc => ?_) (fun hc => ?_)
      · have h := h.1 hc
        refine lv_aload_n hx hb dX6_digest_31 rfl (lv_at hl 0 rfl) ?_
        refine lv_lload_n hx hb dX6_digest_32 rfl (lv_at hl 1 rfl) ?_
        refine zc_VL (As := [.long x1]) (rest := []) ⟨hx, hb, hml, hown, hts⟩ (cwV 1 hts gX6_digest_X6_newsDigest rfl rfl rfl hd_X6_newsDigest ⟨Nat.le_of_ble_eq_true rfl, Nat.le_of_ble_eq_true rfl⟩) (mt_X6_newsDigest l hZ σ _ x1 _ h) (rc_6 hZ hE hP kd100) hE hP hS rfl hl.1 rfl (Nat.le_of_ble_eq_true rfl) dX6_digest_33 ⟨Nat.zero_le _, Nat.zero_le _⟩ (fun r33 σ33 H locs h hP hS => ?_)
        refine lv_lstore_n (lv' := [(1, .long r33), (0, .ref (zq Z 100)), (3, .int x3)]) hx hb dX6_digest_36 rfl hl (by decide) rfl (fun ls hl => ?_)
        refine lv_iconst (v := 0) hx hb dX6_digest_37 (by decide) ?_
        refine lv_istore_n (lv' := [(3, .int 0), (1, .long r33), (0, .ref (zq Z 100))]) hx hb dX6_digest_38 rfl hl (by decide) rfl (fun ls hl => ?_)
        obtain ⟨n, h⟩ := h
        exact B39 n σ33 r33 0 _ _ _ h hP hS (lv_sub hl [2, 1, 0] rfl)
      · have h := h.2 hc
        refine lv_ldc2 (v := 31) hx hb hown lk251 dX6_digest_12 ?_
        refine lv_lload_n hx hb dX6_digest_15 rfl (lv_at hl 1 rfl) ?_
        refine lv_lmul hx hb dX6_digest_16 ?_
        refine lv_aload_n hx hb dX6_digest_17 rfl (lv_at hl 0 rfl) ?_
        refine lv_iload_n hx hb dX6_digest_18 rfl (lv_at hl 2 rfl) ?_
        refine zc_VI (As := [.int x3]) (rest := [.long (31 * x1)]) ⟨hx, hb, hml, hown, hts⟩ (cwV 1 hts gX6_digest_X6_count rfl rfl rfl hd_X6_count ⟨Nat.le_of_ble_eq_true rfl, Nat.le_of_ble_eq_true rfl⟩) (mt_X6_count l hZ σ _ x3 _ h) (rc_6 hZ hE hP kd100) hE hP hS rfl hl.1 rfl (Nat.le_of_ble_eq_true rfl) dX6_digest_19 ⟨Nat.zero_le _, Nat.zero_le _⟩ (fun r19 σ19 H locs h hP hS => ?_)
        refine lv_i2l hx hb dX6_digest_22 rfl ?_
        refine lv_ladd hx hb dX6_digest_23 ?_
        refine lv_lstore_n (lv' := [(1, .long ((31 * x1) + r19.toInt64)), (0, .ref (zq Z 100)), (3, .int x3)]) hx hb dX6_digest_24 rfl hl (by decide) rfl (fun ls hl => ?_)
        refine lv_iinc (v := (x3 + 1)) (lv' := [(3, .int (x3 + 1)), (1, .long ((31 * x1) + r19.toInt64)), (0, .ref (zq Z 100))]) hx hb dX6_digest_25 hl (k := 2) rfl rfl (by decide) rfl (fun ls hl => ?_)
        refine lv_goto (tgt := 6) hx hb dX6_digest_28 (by decide) ?_
        exact ih6 σ19 ((31 * x1) + r19.toInt64) (x3 + 1) _ _ _ h hP hS (lv_sub hl [2, 1, 0] rfl)
  unfold wp_X6_digest at h
  refine lv_ldc2 (v := 17) hx hb hown lk253 dX6_digest_0 ?_
  refine lv_lstore_n (lv' := [(1, .long 17), (0, .ref (zq Z 100))]) hx hb dX6_digest_3 rfl hl (by decide) rfl (fun ls hl => ?_)
  refine lv_iconst (v := 0) hx hb dX6_digest_4 (by decide) ?_
  refine lv_istore_n (lv' := [(3, .int 0), (1, .long 17), (0, .ref (zq Z 100))]) hx hb dX6_digest_5 rfl hl (by decide) rfl (fun ls hl => ?_)
  obtain ⟨n, h⟩ := h
  exact B6 n σ 17 0 _ _ _ h hP hS (lv_sub hl [2, 1, 0] rfl)
