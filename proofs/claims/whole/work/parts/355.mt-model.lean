theorem hd_X6_get : yX6_get.cls = RX6 ∧ yX6_get.cls ≠ "java/lang/invoke/MethodHandle" ∧ yX6_get.cls ≠ "java/lang/invoke/VarHandle" ∧ (parseMethodDescriptor yX6_get.desc).map (fun d => d.parameters.length) = some 2 := by decide +kernel
set_option maxHeartbeats 4000000 in
set_option maxRecDepth 100000 in
theorem mt_X6_get (l : Launch) {Z : ZW} (hZ : isM Z) (σ : SS) (sz : Nat) (x1 : Int32) (x2 : Int32) (K : SS → Int64 → Prop) (h : wp_X6_get σ x1 x2 K) : mtZ l yX6_get wsX6_get (rm9 2 44) Z [.ref (zq Z 100), .int x1, .int x2] σ sz (qcL Z K sz) := by
  refine Met.ofW (cc := cX6_get) (maxL := 4) (ret := (some .long)) (by decide) rfl ?_
  intro p e s m args below meth c s₁ B hml hv
  obtain ⟨hargs, hsz, hP, hE1, hE2, hE3⟩ := hv
  subst hsz
  have hE : envZ Z s := ⟨hE1, hE2, hE3⟩
  have hx := B.exec
  have hb := B.bytes
  have hr := B.returns
  have hlocks := B.notSynchronized
  have hts := atoms_spec (ws := wsX6_get) B.pre
  have hown : s.vm.findClass RX6 = some m.cls := findClass_of_methodNamed B.named
  have hS : SZ Z s s.heap [] := va_S.rf
  obtain ⟨ls, hef, hl⟩ := z_entry m hargs (n := 4) (Nat.le_of_ble_eq_true rfl)
  rw [hef]
  have hl : lv_has ls 4 [(0, .ref (zq Z 100)), (1, .int x1), (2, .int x2)] := hl
  have in6 : ∀ w ∈ u_ws RX6 TX6 28, w ∈ wsX6_get := by decide +kernel
  have lk48 := hts (.fieldLink RX6 48 "BeatDoubtsModel" "forms" "[I") (by decide +kernel)
  have B41 : ∀ (σ : SS) (x1 : Int32) (x2 : Int32) (k0 : Int32) (H : Heap) (locs : List Loc) (ls : Array Slot), bl_X6_get_41 K σ x1 x2 k0 → PZ Z σ H → SZ Z s H locs → lv_has ls 4 [(0, .ref (zq Z 100)), (1, .int x1), (2, .int x2)] → W p l e (headSpec wsX6_get (rm9 2 44)).room s m args below meth c H locs 0 0 (MQ below (qcL Z K s.heap.size) args s 0 0 (aZ Z s.heap.size)) (F0 m 41 ls [.int k0]) := by
    intro σ x1 x2 k0 H locs ls h hP hS hl
    unfold bl_X6_get_41 at h
    refine lv_istore_n (lv' := [(3, .int k0), (0, .ref (zq Z 100)), (1, .int x1), (2, .int x2)]) hx hb dX6_get_41 rfl hl (by decide) rfl (fun ls hl => ?_)
    refine lv_iload_n hx hb dX6_get_42 rfl (lv_at hl 0 rfl) ?_
    refine lv_if_le (tgt := 57) hx hb dX6_get_43 (by decide) (fun hc => ?_) (fun hc => ?_)
    · have h := h.1 hc
      refine lv_aload_n hx hb dX6_get_57 rfl (lv_at hl 1 rfl) ?_
      refine lv_iload_n hx hb dX6_get_58 rfl (lv_at hl 2 rfl) ?_
      refine lv_iload_n hx hb dX6_get_59 rfl (lv_at hl 3 rfl) ?_
      refine zc_VL (As := [.int x1, .int x2]) (rest := []) ⟨hx, hb, hml, hown, hts⟩ (cwV 2 hts gX6_get_X6_itemOf rfl rfl rfl hd_X6_itemOf ⟨Nat.le_of_ble_eq_true rfl, Nat.le_of_ble_eq_true rfl⟩) (mt_X6_itemOf l hZ σ _ x1 x2 _ h) (rc_6 hZ hE hP kd100) hE hP hS rfl hl.1 rfl (Nat.le_of_ble_eq_true rfl) dX6_get_60 ⟨Nat.zero_le _, Nat.zero_le _⟩ (fun r60 σ60 H locs h hP hS => ?_)
      exact zr_L hx hb hr hlocks hP hS h dX6_get_63
    · have h := h.2 hc
      refine lv_aload_n hx hb dX6_get_46 rfl (lv_at hl 1 rfl) ?_
      refine lv_iload_n hx hb dX6_get_47 rfl (lv_at hl 0 rfl) ?_
      refine zc_VI (As := [.int k0]) (rest := []) ⟨hx, hb, hml, hown, hts⟩ (cwV 1 hts gX6_get_X6_meets rfl rfl rfl hd_X6_meets ⟨Nat.le_of_ble_eq_true rfl, Nat.le_of_ble_eq_true rfl⟩) (mt_X6_meets l hZ σ _ k0 _ h) (rc_6 hZ hE hP kd100) hE hP hS rfl hl.1 rfl (Nat.le_of_ble_eq_true rfl) dX6_get_48 ⟨Nat.zero_le _, Nat.zero_le _⟩ (fun r48 σ48 H locs h hP hS => ?_)
      refine zc_SL (As := [.int r48]) (rest := []) ⟨hx, hb, hml, hown, hts⟩ (va_cwS 1 hts gX6_get_X6_no rfl rfl rfl hd_X6_no ⟨Nat.le_of_ble_eq_true rfl, Nat.le_of_ble_eq_true rfl⟩) (mt_X6_no l hZ σ48 _ r48 _ h) hE hP hS rfl hl.1 rfl (Nat.le_of_ble_eq_true rfl) dX6_get_51 ⟨Nat.zero_le _, Nat.zero_le _⟩ (fun r51 σ51 H locs h hP hS => ?_)
      refine lv_goto (tgt := 63) hx hb dX6_get_54 (by decide) ?_
      exact zr_L hx hb hr hlocks hP hS h dX6_get_63
  unfold wp_X6_get at h
  refine lv_iload_n hx hb dX6_get_0 rfl (lv_at hl 1 rfl) ?_
  refine zc_SI (As := [.int x1]) (rest := []) ⟨hx, hb, hml, hown, hts⟩ (va_cwS 1 hts gX6_get_X6_isSheet rfl rfl rfl hd_X6_isSheet ⟨Nat.le_of_ble_eq_true rfl, Nat.le_of_ble_eq_true rfl⟩) (mt_X6_isSheet l hZ σ _ x1 _ h) hE hP hS rfl hl.1 rfl (Nat.le_of_ble_eq_true rfl) dX6_get_1 ⟨Nat.zero_le _, Nat.zero_le _⟩ (fun r1 σ1 H locs h hP hS => ?_)
  refine lv_if_ne (tgt := 13) hx hb dX6_get_4 (by decide) (fun hc => ?_) (fun hc => ?_)
  · have h := h.1 hc
    refine lv_aload_n hx hb dX6_get_13 rfl (lv_at hl 0 rfl) ?_
    refine fg_6_19 hZ hx hb hts in6 hown hE hP kd100 lk48 dX6_get_14 ?_
    refine lv_iload_n hx hb dX6_get_17 rfl (lv_at hl 1 rfl) ?_
    obtain ⟨hin, h⟩ := h
    refine al_22 hZ hx hb hE hP kr_6_19 hin dX6_get_18 ?_
    refine lv_iconst (v := (-1)) hx hb dX6_get_19 (by decide) ?_
    refine lv_icmp_ne (tgt := 27) hx hb dX6_get_20 (by decide) (fun hc => ?_) (fun hc => ?_)
    · have h := h.1 hc
      refine lv_aload_n hx hb dX6_get_27 rfl (lv_at hl 0 rfl) ?_
      refine lv_iload_n hx hb dX6_get_28 rfl (lv_at hl 1 rfl) ?_
      refine lv_iload_n hx hb dX6_get_29 rfl (lv_at hl 2 rfl) ?_
      refine zc_VI (As := [.int x1, .int x2]) (rest := []) ⟨hx, hb, hml, hown, hts⟩ (cwV 2 hts gX6_get_X6_hasItem rfl rfl rfl hd_X6_hasItem ⟨Nat.le_of_ble_eq_true rfl, Nat.le_of_ble_eq_true rfl⟩) (mt_X6_hasItem l hZ σ1 _ x1 x2 _ h) (rc_6 hZ hE hP kd100) hE hP hS rfl hl.1 rfl (Nat.le_of_ble_eq_true rfl) dX6_get_30 ⟨Nat.zero_le _, Nat.zero_le _⟩ (fun r30 σ30 H locs h hP hS => ?_)
      refine lv_if_eq (tgt := 40) hx hb dX6_get_33 (by decide) (fun hc => ?_) (fun hc => ?_)
      · have h := h.1 hc
        refine lv_iconst (v := 2) hx hb dX6_get_40 (by decide) ?_
        exact B41 σ30 x1 x2 2 _ _ _ h hP hS (lv_sub hl [0, 1, 2] rfl)
      · have h := h.2 hc
        refine lv_iconst (v := 0) hx hb dX6_get_36 (by decide) ?_
        refine lv_goto (tgt := 41) hx hb dX6_get_37 (by decide) ?_
        exact B41 σ30 x1 x2 0 _ _ _ h hP hS (lv_sub hl [0, 1, 2] rfl)
    · have h := h.2 hc
      refine lv_iconst (v := 1) hx hb dX6_get_23 (by decide) ?_
      refine lv_goto (tgt := 41) hx hb dX6_get_24 (by decide) ?_
      exact B41 σ1 x1 x2 1 _ _ _ h hP hS (lv_sub hl [0, 1, 2] rfl)
  · have h := h.2 hc
    refine lv_bipush (v := (-2)) hx hb dX6_get_7 (by decide) ?_
    refine zc_SL (As := [.int (-2)]) (rest := []) ⟨hx, hb, hml, hown, hts⟩ (va_cwS 1 hts gX6_get_X6_no rfl rfl rfl hd_X6_no ⟨Nat.le_of_ble_eq_true rfl, Nat.le_of_ble_eq_true rfl⟩) (mt_X6_no l hZ σ1 _ (-2) _ h) hE hP hS rfl hl.1 rfl (Nat.le_of_ble_eq_true rfl) dX6_get_9 ⟨Nat.zero_le _, Nat.zero_le _⟩ (fun r9 σ9 H locs h hP hS => ?_)
    exact zr_L hx hb hr hlocks hP hS h dX6_get_12
theorem hd_X6_copy : yX6_copy.cls = RX6 ∧ yX6_copy.cls ≠ "java/lang/invoke/MethodHandle" ∧ yX6_copy.cls ≠ "java/lang/invoke/VarHandle" ∧ (parseMethodDescriptor yX6_copy.desc).map (fun d => d.parameters.length) = some 5 := by decide +kernel
set_option maxHeartbeats 4000000 in
set_option maxRecDepth 100000 in
theorem mt_X6_copy (l : Launch) {Z : ZW} (hZ : isM Z) (σ : SS) (sz : Nat) (x1 : Int32) (x2 : Int32) (x3 : Int32) (x4 : Int32) (x5 : Int32) (K : SS → Int32 → Prop) (h : wp_X6_copy σ x1 x2 x3 x4 x5 K) : mtZ l yX6_copy wsX6_copy (rm9 2 42) Z [.ref (zq Z 100), .int x1, .int x2, .int x3, .int x4, .int x5] σ sz (qcI Z K sz) := by
  refine Met.ofW (cc := cX6_copy) (maxL := 7) (ret := (some .int)) (by decide) rfl ?_
  intro p e s m args below meth c s₁ B hml hv
  obtain ⟨hargs, hsz, hP, hE1, hE2, hE3⟩ := hv
  subst hsz
  have hE : envZ Z s := ⟨hE1, hE2, hE3⟩
  have hx := B.exec
  have hb := B.bytes
  have hr := B.returns
  have hlocks := B.notSynchronized
  have hts := atoms_spec (ws := wsX6_copy) B.pre
  have hown : s.vm.findClass RX6 = some m.cls := findClass_of_methodNamed B.named
  have hS : SZ Z s s.heap [] := va_S.rf
  obtain ⟨ls, hef, hl⟩ := z_entry m hargs (n := 7) (Nat.le_of_ble_eq_true rfl)
  rw [hef]
  have hl : lv_has ls 7 [(0, .ref (zq Z 100)), (1, .int x1), (2, .int x2), (3, .int x3), (4, .int x4), (5, .int x5)] := hl
  have in6 : ∀ w ∈ u_ws RX6 TX6 28, w ∈ wsX6_copy := by decide +kernel
  have lk48 := hts (.fieldLink RX6 48 "BeatDoubtsModel" "forms" "[I") (by decide +kernel)
  have lk51 := hts (.fieldLink RX6 51 "BeatDoubtsModel" "sizes" "[I") (by decide +kernel)
  have lk54 := hts (.fieldLink RX6 54 "BeatDoubtsModel" "wholes" "[J") (by decide +kernel)
  have lk58 := hts (.fieldLink RX6 58 "BeatDoubtsModel" "numbers" "[D") (by decide +kernel)
  have lk62 := hts (.fieldLink RX6 62 "BeatDoubtsModel" "blanks" "[Z") (by decide +kernel)
  have lk65 := hts (.fieldLink RX6 65 "BeatDoubtsModel" "movedWholes" "[J") (by decide +kernel)
  have lk68 := hts (.fieldLink RX6 68 "BeatDoubtsModel" "movedNumbers" "[D") (by decide +kernel)
  have lk71 := hts (.fieldLink RX6 71 "BeatDoubtsModel" "movedBlanks" "[Z") (by decide +kernel)
  have B201 : ∀ (n : Nat) (σ : SS) (x3 : Int32) (x4 : Int32) (x5 : Int32) (x6 : Int32) (H : Heap) (locs : List Loc) (ls : Array Slot), fx5 (lb_X6_copy_201 K) n σ x3 x4 x5 x6 → PZ Z σ H → SZ Z s H locs → lv_has ls 7 [(0, .ref (zq Z 100)), (3, .int x3), (4, .int x4), (5, .int x5), (6, .int x6)] → W p l e (headSpec wsX6_copy (rm9 2 42)).room s m args below meth c H locs 0 0 (MQ below (qcI Z K s.heap.size) args s 0 0 (aZ Z s.heap.size)) (F0 m 201 ls []) := by
    intro n201
    induction n201 with
    | zero => intro σ x3 x4 x5 x6 H locs ls h; exact h.elim
    | succ n201 ih201 =>
      intro σ x3 x4 x5 x6 H locs ls h hP hS hl
      have h : lb_X6_copy_201 K (fx5 (lb_X6_copy_201 K) n201) σ x3 x4 x5 x6 := h
      unfold lb_X6_copy_201 at h
      refine lv_iload hx hb dX6_copy_201 (lv_at hl 4 rfl) ?_
      refine lv_iload hx hb dX6_copy_203 (lv_at hl 3 rfl) ?_
      refine lv_icmp_ge (tgt := 280) hx hb dX6_copy_205 (by decide) (fun hc => ?_) (fun hc => ?_)
      · have h := h.1 hc
        refine lv_iconst (v := 1) hx hb dX6_copy_280 (by decide) ?_
        exact zr_I hx hb hr hlocks hP hS h dX6_copy_281
      · have h := h.2 hc
        refine lv_aload_n hx hb dX6_copy_208 rfl (lv_at hl 0 rfl) ?_
        refine fg_6_21 hZ hx hb hts in6 hown hE hP kd100 lk54 dX6_copy_209 ?_
        refine lv_bipush (v := 40) hx hb dX6_copy_212 (by decide) ?_
        refine lv_iload_n hx hb dX6_copy_214 rfl (lv_at hl 1 rfl) ?_
        refine lv_imul hx hb dX6_copy_215 ?_
        refine lv_iload hx hb dX6_copy_216 (lv_at hl 2 rfl) ?_
        refine lv_iadd hx hb dX6_copy_218 ?_
        refine lv_iload hx hb dX6_copy_219 (lv_at hl 4 rfl) ?_
        refine lv_iadd hx hb dX6_copy_221 ?_
        refine lv_aload_n hx hb dX6_copy_222 rfl (lv_at hl 0 rfl) ?_
        refine fg_6_24 hZ hx hb hts in6 hown hE hP kd100 lk65 dX6_copy_223 ?_
        refine lv_iload hx hb dX6_copy_226 (lv_at hl 4 rfl) ?_
        obtain ⟨hin, h⟩ := h
        refine al_26 hZ hx hb hE hP kr_6_24 hin dX6_copy_228 ?_
        obtain ⟨hin, h⟩ := h
        refine as_25 hZ hx hb hE hP hS kr_6_21 hin dX6_copy_229 (fun H locs hP hS => ?_)
        refine lv_aload_n hx hb dX6_copy_230 rfl (lv_at hl 0 rfl) ?_
        refine fg_6_22 hZ hx hb hts in6 hown hE hP kd100 lk58 dX6_copy_231 ?_
        refine lv_bipush (v := 40) hx hb dX6_copy_234 (by decide) ?_
        refine lv_iload_n hx hb dX6_copy_236 rfl (lv_at hl 1 rfl) ?_
        refine lv_imul hx hb dX6_copy_237 ?_
        refine lv_iload hx hb dX6_copy_238 (lv_at hl 2 rfl) ?_
        refine lv_iadd hx hb dX6_copy_240 ?_
        refine lv_iload hx hb dX6_copy_241 (lv_at hl 4 rfl) ?_
        refine lv_iadd hx hb dX6_copy_243 ?_
        refine lv_aload_n hx hb dX6_copy_244 rfl (lv_at hl 0 rfl) ?_
        refine fg_6_25 hZ hx hb hts in6 hown hE hP kd100 lk68 dX6_copy_245 ?_
        refine lv_iload hx hb dX6_copy_248 (lv_at hl 4 rfl) ?_
        obtain ⟨hin, h⟩ := h
        refine al_28 hZ hx hb hE hP kr_6_25 hin dX6_copy_250 ?_
        obtain ⟨hin, h⟩ := h
        refine as_27 hZ hx hb hE hP hS kr_6_22 hin dX6_copy_251 (fun H locs hP hS => ?_)
        refine lv_aload_n hx hb dX6_copy_252 rfl (lv_at hl 0 rfl) ?_
        refine fg_6_23 hZ hx hb hts in6 hown hE hP kd100 lk62 dX6_copy_253 ?_
        refine lv_bipush (v := 40) hx hb dX6_copy_256 (by decide) ?_
        refine lv_iload_n hx hb dX6_copy_258 rfl (lv_at hl 1 rfl) ?_
        refine lv_imul hx hb dX6_copy_259 ?_
        refine lv_iload hx hb dX6_copy_260 (lv_at hl 2 rfl) ?_
        refine lv_iadd hx hb dX6_copy_262 ?_
        refine lv_iload hx hb dX6_copy_263 (lv_at hl 4 rfl) ?_
        refine lv_iadd hx hb dX6_copy_265 ?_
        refine lv_aload_n hx hb dX6_copy_266 rfl (lv_at hl 0 rfl) ?_
        refine fg_6_26 hZ hx hb hts in6 hown hE hP kd100 lk71 dX6_copy_267 ?_
        refine lv_iload hx hb dX6_copy_270 (lv_at hl 4 rfl) ?_
        obtain ⟨hin, h⟩ := h
        refine al_23 hZ hx hb hE hP kr_6_26 hin dX6_copy_272 ?_
        obtain ⟨hin, h⟩ := h
        refine as_24 hZ hx hb hE hP hS kr_6_23 hin dX6_copy_273 (fun H locs hP hS => ?_)
        refine lv_iinc (v := (x6 + 1)) (lv' := [(6, .int (x6 + 1)), (0, .ref (zq Z 100)), (3, .int x3), (4, .int x4), (5, .int x5)]) hx hb dX6_copy_274 hl (k := 4) rfl rfl (by decide) rfl (fun ls hl => ?_)
        refine lv_goto (tgt := 201) hx hb dX6_copy_277 (by decide) ?_
        exact ih201 (sA (sD (sL σ 112 (((40 * x3) + x4) + x6).toNatClampNeg (gL σ 115 x6.toNatClampNeg)) 113 (((40 * x3) + x4) + x6).toNatClampNeg (gD σ 116 x6.toNatClampNeg)) 114 (((40 * x3) + x4) + x6).toNatClampNeg (vp_nar .boolean (gA σ 117 x6.toNatClampNeg))) x3 x4 x5 (x6 + 1) _ _ _ h hP hS (lv_sub hl [1, 2, 3, 4, 0] rfl)
  have B122 : ∀ (n : Nat) (σ : SS) (x1 : Int32) (x2 : Int32) (x3 : Int32) (x4 : Int32) (x5 : Int32) (x6 : Int32) (H : Heap) (locs : List Loc) (ls : Array Slot), fx7 (lb_X6_copy_122 K) n σ x1 x2 x3 x4 x5 x6 → PZ Z σ H → SZ Z s H locs → lv_has ls 7 [(0, .ref (zq Z 100)), (1, .int x1), (2, .int x2), (3, .int x3), (4, .int x4), (5, .int x5), (6, .int x6)] → W p l e (headSpec wsX6_copy (rm9 2 42)).room s m args below meth c H locs 0 0 (MQ below (qcI Z K s.heap.size) args s 0 0 (aZ Z s.heap.size)) (F0 m 122 ls []) := by
    intro n122
    induction n122 with
    | zero => intro σ x1 x2 x3 x4 x5 x6 H locs ls h; exact h.elim
    | succ n122 ih122 =>
      intro σ x1 x2 x3 x4 x5 x6 H locs ls h hP hS hl
      have h : lb_X6_copy_122 K (fx7 (lb_X6_copy_122 K) n122) σ x1 x2 x3 x4 x5 x6 := h
      unfold lb_X6_copy_122 at h
      refine lv_iload hx hb dX6_copy_122 (lv_at hl 6 rfl) ?_
      refine lv_iload hx hb dX6_copy_124 (lv_at hl 5 rfl) ?_
      refine lv_icmp_ge (tgt := 198) hx hb dX6_copy_126 (by decide) (fun hc => ?_) (fun hc => ?_)
      · have h := h.1 hc
        refine lv_iconst (v := 0) hx hb dX6_copy_198 (by decide) ?_
        refine lv_istore (lv' := [(6, .int 0), (0, .ref (zq Z 100)), (1, .int x1), (2, .int x2), (3, .int x3), (4, .int x4), (5, .int x5)]) hx hb dX6_copy_199 hl (by decide) rfl (fun ls hl => ?_)
        obtain ⟨n, h⟩ := h
        exact B201 n σ x3 x4 x5 0 _ _ _ h hP hS (lv_sub hl [1, 4, 5, 6, 0] rfl)
      · have h := h.2 hc
        refine lv_aload_n hx hb dX6_copy_129 rfl (lv_at hl 0 rfl) ?_
        refine fg_6_24 hZ hx hb hts in6 hown hE hP kd100 lk65 dX6_copy_130 ?_
        refine lv_iload hx hb dX6_copy_133 (lv_at hl 6 rfl) ?_
        refine lv_aload_n hx hb dX6_copy_135 rfl (lv_at hl 0 rfl) ?_
        refine fg_6_21 hZ hx hb hts in6 hown hE hP kd100 lk54 dX6_copy_136 ?_
        refine lv_bipush (v := 40) hx hb dX6_copy_139 (by decide) ?_
        refine lv_iload_n hx hb dX6_copy_141 rfl (lv_at hl 1 rfl) ?_
        refine lv_imul hx hb dX6_copy_142 ?_
        refine lv_iload_n hx hb dX6_copy_143 rfl (lv_at hl 2 rfl) ?_
        refine lv_iadd hx hb dX6_copy_144 ?_
        refine lv_iload hx hb dX6_copy_145 (lv_at hl 6 rfl) ?_
        refine lv_iadd hx hb dX6_copy_147 ?_
        obtain ⟨hin, h⟩ := h
        refine al_25 hZ hx hb hE hP kr_6_21 hin dX6_copy_148 ?_
        obtain ⟨hin, h⟩ := h
        refine as_26 hZ hx hb hE hP hS kr_6_24 hin dX6_copy_149 (fun H locs hP hS => ?_)
        refine lv_aload_n hx hb dX6_copy_150 rfl (lv_at hl 0 rfl) ?_
        refine fg_6_25 hZ hx hb hts in6 hown hE hP kd100 lk68 dX6_copy_151 ?_
        refine lv_iload hx hb dX6_copy_154 (lv_at hl 6 rfl) ?_
        refine lv_aload_n hx hb dX6_copy_156 rfl (lv_at hl 0 rfl) ?_
        refine fg_6_22 hZ hx hb hts in6 hown hE hP kd100 lk58 dX6_copy_157 ?_
        refine lv_bipush (v := 40) hx hb dX6_copy_160 (by decide) ?_
        refine lv_iload_n hx hb dX6_copy_162 rfl (lv_at hl 1 rfl) ?_
        refine lv_imul hx hb dX6_copy_163 ?_
        refine lv_iload_n hx hb dX6_copy_164 rfl (lv_at hl 2 rfl) ?_
        refine lv_iadd hx hb dX6_copy_165 ?_
        refine lv_iload hx hb dX6_copy_166 (lv_at hl 6 rfl) ?_
        refine lv_iadd hx hb dX6_copy_168 ?_
        obtain ⟨hin, h⟩ := h
        refine al_27 hZ hx hb hE hP kr_6_22 hin dX6_copy_169 ?_
        obtain ⟨hin, h⟩ := h
        refine as_28 hZ hx hb hE hP hS kr_6_25 hin dX6_copy_170 (fun H locs hP hS => ?_)
        refine lv_aload_n hx hb dX6_copy_171 rfl (lv_at hl 0 rfl) ?_
        refine fg_6_26 hZ hx hb hts in6 hown hE hP kd100 lk71 dX6_copy_172 ?_
        refine lv_iload hx hb dX6_copy_175 (lv_at hl 6 rfl) ?_
        refine lv_aload_n hx hb dX6_copy_177 rfl (lv_at hl 0 rfl) ?_
        refine fg_6_23 hZ hx hb hts in6 hown hE hP kd100 lk62 dX6_copy_178 ?_
        refine lv_bipush (v := 40) hx hb dX6_copy_181 (by decide) ?_
        refine lv_iload_n hx hb dX6_copy_183 rfl (lv_at hl 1 rfl) ?_
        refine lv_imul hx hb dX6_copy_184 ?_
        refine lv_iload_n hx hb dX6_copy_185 rfl (lv_at hl 2 rfl) ?_
        refine lv_iadd hx hb dX6_copy_186 ?_
        refine lv_iload hx hb dX6_copy_187 (lv_at hl 6 rfl) ?_
        refine lv_iadd hx hb dX6_copy_189 ?_
        obtain ⟨hin, h⟩ := h
        refine al_24 hZ hx hb hE hP kr_6_23 hin dX6_copy_190 ?_
        obtain ⟨hin, h⟩ := h
        refine as_23 hZ hx hb hE hP hS kr_6_26 hin dX6_copy_191 (fun H locs hP hS => ?_)
        refine lv_iinc (v := (x6 + 1)) (lv' := [(6, .int (x6 + 1)), (0, .ref (zq Z 100)), (1, .int x1), (2, .int x2), (3, .int x3), (4, .int x4), (5, .int x5)]) hx hb dX6_copy_192 hl (k := 6) rfl rfl (by decide) rfl (fun ls hl => ?_)
        refine lv_goto (tgt := 122) hx hb dX6_copy_195 (by decide) ?_
        exact ih122 (sA (sD (sL σ 115 x6.toNatClampNeg (gL σ 112 (((40 * x1) + x2) + x6).toNatClampNeg)) 116 x6.toNatClampNeg (gD σ 113 (((40 * x1) + x2) + x6).toNatClampNeg)) 117 x6.toNatClampNeg (vp_nar .boolean (gA σ 114 (((40 * x1) + x2) + x6).toNatClampNeg))) x1 x2 x3 x4 x5 (x6 + 1) _ _ _ h hP hS (lv_sub hl [1, 2, 3, 4, 5, 6, 0] rfl)
  unfold wp_X6_copy at h
  refine lv_iload_n hx hb dX6_copy_0 rfl (lv_at hl 1 rfl) ?_
  refine zc_SI (As := [.int x1]) (rest := []) ⟨hx, hb, hml, hown, hts⟩ (va_cwS 1 hts gX6_copy_X6_isSheet rfl rfl rfl hd_X6_isSheet ⟨Nat.le_of_ble_eq_true rfl, Nat.le_of_ble_eq_true rfl⟩) (mt_X6_isSheet l hZ σ _ x1 _ h) hE hP hS rfl hl.1 rfl (Nat.le_of_ble_eq_true rfl) dX6_copy_1 ⟨Nat.zero_le _, Nat.zero_le _⟩ (fun r1 σ1 H locs h hP hS => ?_)
  refine lv_if_eq (tgt := 14) hx hb dX6_copy_4 (by decide) (fun hc => ?_) (fun hc => ?_)
  · have h := h.1 hc
    refine lv_bipush (v := (-2)) hx hb dX6_copy_14 (by decide) ?_
    exact zr_I hx hb hr hlocks hP hS h dX6_copy_16
  · have h := h.2 hc
    refine lv_iload_n hx hb dX6_copy_7 rfl (lv_at hl 3 rfl) ?_
    refine zc_SI (As := [.int x3]) (rest := []) ⟨hx, hb, hml, hown, hts⟩ (va_cwS 1 hts gX6_copy_X6_isSheet rfl rfl rfl hd_X6_isSheet ⟨Nat.le_of_ble_eq_true rfl, Nat.le_of_ble_eq_true rfl⟩) (mt_X6_isSheet l hZ σ1 _ x3 _ h) hE hP hS rfl hl.1 rfl (Nat.le_of_ble_eq_true rfl) dX6_copy_8 ⟨Nat.zero_le _, Nat.zero_le _⟩ (fun r8 σ8 H locs h hP hS => ?_)
    refine lv_if_ne (tgt := 17) hx hb dX6_copy_11 (by decide) (fun hc => ?_) (fun hc => ?_)
    · have h := h.1 hc
      refine lv_aload_n hx hb dX6_copy_17 rfl (lv_at hl 0 rfl) ?_
      refine fg_6_19 hZ hx hb hts in6 hown hE hP kd100 lk48 dX6_copy_18 ?_
      refine lv_iload_n hx hb dX6_copy_21 rfl (lv_at hl 1 rfl) ?_
      obtain ⟨hin, h⟩ := h
      refine al_22 hZ hx hb hE hP kr_6_19 hin dX6_copy_22 ?_
      refine lv_iconst (v := (-1)) hx hb dX6_copy_23 (by decide) ?_
      refine lv_icmp_eq (tgt := 37) hx hb dX6_copy_24 (by decide) (fun hc => ?_) (fun hc => ?_)
      · have h := h.1 hc
        refine lv_aload_n hx hb dX6_copy_37 rfl (lv_at hl 0 rfl) ?_
        refine lv_iconst (v := 1) hx hb dX6_copy_38 (by decide) ?_
        refine zc_VI (As := [.int 1]) (rest := []) ⟨hx, hb, hml, hown, hts⟩ (cwV 1 hts gX6_copy_X6_meets rfl rfl rfl hd_X6_meets ⟨Nat.le_of_ble_eq_true rfl, Nat.le_of_ble_eq_true rfl⟩) (mt_X6_meets l hZ σ8 _ 1 _ h) (rc_6 hZ hE hP kd100) hE hP hS rfl hl.1 rfl (Nat.le_of_ble_eq_true rfl) dX6_copy_39 ⟨Nat.zero_le _, Nat.zero_le _⟩ (fun r39 σ39 H locs h hP hS => ?_)
        exact zr_I hx hb hr hlocks hP hS h dX6_copy_42
      · have h := h.2 hc
        refine lv_aload_n hx hb dX6_copy_27 rfl (lv_at hl 0 rfl) ?_
        refine fg_6_19 hZ hx hb hts in6 hown hE hP kd100 lk48 dX6_copy_28 ?_
        refine lv_iload_n hx hb dX6_copy_31 rfl (lv_at hl 3 rfl) ?_
        obtain ⟨hin, h⟩ := h
        refine al_22 hZ hx hb hE hP kr_6_19 hin dX6_copy_32 ?_
        refine lv_iconst (v := (-1)) hx hb dX6_copy_33 (by decide) ?_
        refine lv_icmp_ne (tgt := 43) hx hb dX6_copy_34 (by decide) (fun hc => ?_) (fun hc => ?_)
        · have h := h.1 hc
          refine lv_aload_n hx hb dX6_copy_43 rfl (lv_at hl 0 rfl) ?_
          refine fg_6_19 hZ hx hb hts in6 hown hE hP kd100 lk48 dX6_copy_44 ?_
          refine lv_iload_n hx hb dX6_copy_47 rfl (lv_at hl 1 rfl) ?_
          obtain ⟨hin, h⟩ := h
          refine al_22 hZ hx hb hE hP kr_6_19 hin dX6_copy_48 ?_
          refine lv_aload_n hx hb dX6_copy_49 rfl (lv_at hl 0 rfl) ?_
          refine fg_6_19 hZ hx hb hts in6 hown hE hP kd100 lk48 dX6_copy_50 ?_
          refine lv_iload_n hx hb dX6_copy_53 rfl (lv_at hl 3 rfl) ?_
          obtain ⟨hin, h⟩ := h
          refine al_22 hZ hx hb hE hP kr_6_19 hin dX6_copy_54 ?_
          refine lv_icmp_eq (tgt := 64) hx hb dX6_copy_55 (by decide) (fun hc => ?_) (fun hc => ?_)
          · have h := h.1 hc
            refine lv_iload_n hx hb dX6_copy_64 rfl (lv_at hl 2 rfl) ?_
            refine lv_if_lt (tgt := 113) hx hb dX6_copy_65 (by decide) (fun hc => ?_) (fun hc => ?_)
            · have h := h.1 hc
              refine lv_aload_n hx hb dX6_copy_113 rfl (lv_at hl 0 rfl) ?_
              refine lv_iconst (v := 2) hx hb dX6_copy_114 (by decide) ?_
              refine zc_VI (As := [.int 2]) (rest := []) ⟨hx, hb, hml, hown, hts⟩ (cwV 1 hts gX6_copy_X6_meets rfl rfl rfl hd_X6_meets ⟨Nat.le_of_ble_eq_true rfl, Nat.le_of_ble_eq_true rfl⟩) (mt_X6_meets l hZ σ8 _ 2 _ h) (rc_6 hZ hE hP kd100) hE hP hS rfl hl.1 rfl (Nat.le_of_ble_eq_true rfl) dX6_copy_115 ⟨Nat.zero_le _, Nat.zero_le _⟩ (fun r115 σ115 H locs h hP hS => ?_)
              exact zr_I hx hb hr hlocks hP hS h dX6_copy_118
            · have h := h.2 hc
              refine lv_iload hx hb dX6_copy_68 (lv_at hl 4 rfl) ?_
              refine lv_if_lt (tgt := 113) hx hb dX6_copy_70 (by decide) (fun hc => ?_) (fun hc => ?_)
              · have h := h.1 hc
                refine lv_aload_n hx hb dX6_copy_113 rfl (lv_at hl 0 rfl) ?_
                refine lv_iconst (v := 2) hx hb dX6_copy_114 (by decide) ?_
                refine zc_VI (As := [.int 2]) (rest := []) ⟨hx, hb, hml, hown, hts⟩ (cwV 1 hts gX6_copy_X6_meets rfl rfl rfl hd_X6_meets ⟨Nat.le_of_ble_eq_true rfl, Nat.le_of_ble_eq_true rfl⟩) (mt_X6_meets l hZ σ8 _ 2 _ h) (rc_6 hZ hE hP kd100) hE hP hS rfl hl.1 rfl (Nat.le_of_ble_eq_true rfl) dX6_copy_115 ⟨Nat.zero_le _, Nat.zero_le _⟩ (fun r115 σ115 H locs h hP hS => ?_)
                exact zr_I hx hb hr hlocks hP hS h dX6_copy_118
              · have h := h.2 hc
                refine lv_iload hx hb dX6_copy_73 (lv_at hl 5 rfl) ?_
                refine lv_if_lt (tgt := 113) hx hb dX6_copy_75 (by decide) (fun hc => ?_) (fun hc => ?_)
                · have h := h.1 hc
                  refine lv_aload_n hx hb dX6_copy_113 rfl (lv_at hl 0 rfl) ?_
                  refine lv_iconst (v := 2) hx hb dX6_copy_114 (by decide) ?_
                  refine zc_VI (As := [.int 2]) (rest := []) ⟨hx, hb, hml, hown, hts⟩ (cwV 1 hts gX6_copy_X6_meets rfl rfl rfl hd_X6_meets ⟨Nat.le_of_ble_eq_true rfl, Nat.le_of_ble_eq_true rfl⟩) (mt_X6_meets l hZ σ8 _ 2 _ h) (rc_6 hZ hE hP kd100) hE hP hS rfl hl.1 rfl (Nat.le_of_ble_eq_true rfl) dX6_copy_115 ⟨Nat.zero_le _, Nat.zero_le _⟩ (fun r115 σ115 H locs h hP hS => ?_)
                  exact zr_I hx hb hr hlocks hP hS h dX6_copy_118
                · have h := h.2 hc
                  refine lv_iload_n hx hb dX6_copy_78 rfl (lv_at hl 2 rfl) ?_
                  refine lv_i2l hx hb dX6_copy_79 rfl ?_
                  refine lv_iload hx hb dX6_copy_80 (lv_at hl 5 rfl) ?_
                  refine lv_i2l hx hb dX6_copy_82 rfl ?_
                  refine lv_ladd hx hb dX6_copy_83 ?_
                  refine lv_aload_n hx hb dX6_copy_84 rfl (lv_at hl 0 rfl) ?_
                  refine fg_6_20 hZ hx hb hts in6 hown hE hP kd100 lk51 dX6_copy_85 ?_
                  refine lv_iload_n hx hb dX6_copy_88 rfl (lv_at hl 1 rfl) ?_
                  obtain ⟨hin, h⟩ := h
                  refine al_22 hZ hx hb hE hP kr_6_20 hin dX6_copy_89 ?_
                  refine lv_i2l hx hb dX6_copy_90 rfl ?_
                  refine W.lcmp hx hb dX6_copy_91 ?_
                  refine lv_if_gt (tgt := 113) hx hb dX6_copy_92 (by decide) (fun hc => ?_) (fun hc => ?_)
                  · have h := h.1 hc
                    refine lv_aload_n hx hb dX6_copy_113 rfl (lv_at hl 0 rfl) ?_
                    refine lv_iconst (v := 2) hx hb dX6_copy_114 (by decide) ?_
                    refine zc_VI (As := [.int 2]) (rest := []) ⟨hx, hb, hml, hown, hts⟩ (cwV 1 hts gX6_copy_X6_meets rfl rfl rfl hd_X6_meets ⟨Nat.le_of_ble_eq_true rfl, Nat.le_of_ble_eq_true rfl⟩) (mt_X6_meets l hZ σ8 _ 2 _ h) (rc_6 hZ hE hP kd100) hE hP hS rfl hl.1 rfl (Nat.le_of_ble_eq_true rfl) dX6_copy_115 ⟨Nat.zero_le _, Nat.zero_le _⟩ (fun r115 σ115 H locs h hP hS => ?_)
                    exact zr_I hx hb hr hlocks hP hS h dX6_copy_118
                  · have h := h.2 hc
                    refine lv_iload hx hb dX6_copy_95 (lv_at hl 4 rfl) ?_
                    refine lv_i2l hx hb dX6_copy_97 rfl ?_
                    refine lv_iload hx hb dX6_copy_98 (lv_at hl 5 rfl) ?_
                    refine lv_i2l hx hb dX6_copy_100 rfl ?_
                    refine lv_ladd hx hb dX6_copy_101 ?_
                    refine lv_aload_n hx hb dX6_copy_102 rfl (lv_at hl 0 rfl) ?_
                    refine fg_6_20 hZ hx hb hts in6 hown hE hP kd100 lk51 dX6_copy_103 ?_
                    refine lv_iload_n hx hb dX6_copy_106 rfl (lv_at hl 3 rfl) ?_
                    obtain ⟨hin, h⟩ := h
                    refine al_22 hZ hx hb hE hP kr_6_20 hin dX6_copy_107 ?_
                    refine lv_i2l hx hb dX6_copy_108 rfl ?_
                    refine W.lcmp hx hb dX6_copy_109 ?_
                    refine lv_if_le (tgt := 119) hx hb dX6_copy_110 (by decide) (fun hc => ?_) (fun hc => ?_)
                    · have h := h.1 hc
                      refine lv_iconst (v := 0) hx hb dX6_copy_119 (by decide) ?_
                      refine lv_istore (lv' := [(6, .int 0), (0, .ref (zq Z 100)), (1, .int x1), (2, .int x2), (3, .int x3), (4, .int x4), (5, .int x5)]) hx hb dX6_copy_120 hl (by decide) rfl (fun ls hl => ?_)
                      obtain ⟨n, h⟩ := h
                      exact B122 n σ8 x1 x2 x3 x4 x5 0 _ _ _ h hP hS (lv_sub hl [1, 2, 3, 4, 5, 6, 0] rfl)
                    · have h := h.2 hc
                      refine lv_aload_n hx hb dX6_copy_113 rfl (lv_at hl 0 rfl) ?_
                      refine lv_iconst (v := 2) hx hb dX6_copy_114 (by decide) ?_
                      refine zc_VI (As := [.int 2]) (rest := []) ⟨hx, hb, hml, hown, hts⟩ (cwV 1 hts gX6_copy_X6_meets rfl rfl rfl hd_X6_meets ⟨Nat.le_of_ble_eq_true rfl, Nat.le_of_ble_eq_true rfl⟩) (mt_X6_meets l hZ σ8 _ 2 _ h) (rc_6 hZ hE hP kd100) hE hP hS rfl hl.1 rfl (Nat.le_of_ble_eq_true rfl) dX6_copy_115 ⟨Nat.zero_le _, Nat.zero_le _⟩ (fun r115 σ115 H locs h hP hS => ?_)
                      exact zr_I hx hb hr hlocks hP hS h dX6_copy_118
          · have h := h.2 hc
            refine lv_aload_n hx hb dX6_copy_58 rfl (lv_at hl 0 rfl) ?_
            refine lv_iconst (v := 4) hx hb dX6_copy_59 (by decide) ?_
            refine zc_VI (As := [.int 4]) (rest := []) ⟨hx, hb, hml, hown, hts⟩ (cwV 1 hts gX6_copy_X6_meets rfl rfl rfl hd_X6_meets ⟨Nat.le_of_ble_eq_true rfl, Nat.le_of_ble_eq_true rfl⟩) (mt_X6_meets l hZ σ8 _ 4 _ h) (rc_6 hZ hE hP kd100) hE hP hS rfl hl.1 rfl (Nat.le_of_ble_eq_true rfl) dX6_copy_60 ⟨Nat.zero_le _, Nat.zero_le _⟩ (fun r60 σ60 H locs h hP hS => ?_)
            exact zr_I hx hb hr hlocks hP hS h dX6_copy_63
        · have h := h.2 hc
          refine lv_aload_n hx hb dX6_copy_37 rfl (lv_at hl 0 rfl) ?_
          refine lv_iconst (v := 1) hx hb dX6_copy_38 (by decide) ?_
          refine zc_VI (As := [.int 1]) (rest := []) ⟨hx, hb, hml, hown, hts⟩ (cwV 1 hts gX6_copy_X6_meets rfl rfl rfl hd_X6_meets ⟨Nat.le_of_ble_eq_true rfl, Nat.le_of_ble_eq_true rfl⟩) (mt_X6_meets l hZ σ8 _ 1 _ h) (rc_6 hZ hE hP kd100) hE hP hS rfl hl.1 rfl (Nat.le_of_ble_eq_true rfl) dX6_copy_39 ⟨Nat.zero_le _, Nat.zero_le _⟩ (fun r39 σ39 H locs h hP hS => ?_)
          exact zr_I hx hb hr hlocks hP hS h dX6_copy_42
    · have h := h.2 hc
      refine lv_bipush (v := (-2)) hx hb dX6_copy_14 (by decide) ?_
      exact zr_I hx hb hr hlocks hP hS h dX6_copy_16
theorem hd_X6_write : yX6_write.cls = RX6 ∧ yX6_write.cls ≠ "java/lang/invoke/MethodHandle" ∧ yX6_write.cls ≠ "java/lang/invoke/VarHandle" ∧ (parseMethodDescriptor yX6_write.desc).map (fun d => d.parameters.length) = some 1 := by decide +kernel
set_option maxHeartbeats 4000000 in
set_option maxRecDepth 100000 in
theorem mt_X6_write (l : Launch) {Z : ZW} (hZ : isM Z) (σ : SS) (sz : Nat) (x1 : Int32) (K : SS → Int32 → Prop) (h : wp_X6_write σ x1 K) : mtZ l yX6_write wsX6_write (rm9 5 110) Z [.ref (zq Z 100), .int x1] σ sz (qcI Z K sz) := by
  refine Met.ofW (cc := cX6_write) (maxL := 7) (ret := (some .int)) (by decide) rfl ?_
  intro p e s m args below meth c s₁ B hml hv
  obtain ⟨hargs, hsz, hP, hE1, hE2, hE3⟩ := hv
  subst hsz
  have hE : envZ Z s := ⟨hE1, hE2, hE3⟩
  have hx := B.exec
  have hb := B.bytes
  have hr := B.returns
  have hlocks := B.notSynchronized
  have hts := atoms_spec (ws := wsX6_write) B.pre
  have hown : s.vm.findClass RX6 = some m.cls := findClass_of_methodNamed B.named
  have hS : SZ Z s s.heap [] := va_S.rf
  obtain ⟨ls, hef, hl⟩ := z_entry m hargs (n := 7) (Nat.le_of_ble_eq_true rfl)
  rw [hef]
  have hl : lv_has ls 7 [(0, .ref (zq Z 100)), (1, .int x1)] := hl
  have in6 : ∀ w ∈ u_ws RX6 TX6 28, w ∈ wsX6_write := by decide +kernel
  have lk26 := hts (.fieldLink RX6 26 "BeatDoubtsModel" "newsTimes" "[I") (by decide +kernel)
  have lk48 := hts (.fieldLink RX6 48 "BeatDoubtsModel" "forms" "[I") (by decide +kernel)
  have lk51 := hts (.fieldLink RX6 51 "BeatDoubtsModel" "sizes" "[I") (by decide +kernel)
  have lk58 := hts (.fieldLink RX6 58 "BeatDoubtsModel" "numbers" "[D") (by decide +kernel)
  have lk62 := hts (.fieldLink RX6 62 "BeatDoubtsModel" "blanks" "[Z") (by decide +kernel)
  have lk80 := hts (.fieldLink RX6 80 "BeatDoubtsModel" "many" "I") (by decide +kernel)
  have B44 : ∀ (n : Nat) (σ : SS) (x1 : Int32) (x2 : Int32) (x3 : Int32) (H : Heap) (locs : List Loc) (ls : Array Slot), fx4 (lb_X6_write_44 K) n σ x1 x2 x3 → PZ Z σ H → SZ Z s H locs → lv_has ls 7 [(0, .ref (zq Z 100)), (1, .int x1), (2, .int x2), (3, .int x3)] → W p l e (headSpec wsX6_write (rm9 5 110)).room s m args below meth c H locs 0 0 (MQ below (qcI Z K s.heap.size) args s 0 0 (aZ Z s.heap.size)) (F0 m 44 ls []) := by
    intro n44
    induction n44 with
    | zero => intro σ x1 x2 x3 H locs ls h; exact h.elim
    | succ n44 ih44 =>
      have B171 : ∀ (σ : SS) (x1 : Int32) (x2 : Int32) (x3 : Int32) (x5 : Int32) (k0 : Int32) (k1 : Int32) (H : Heap) (locs : List Loc) (ls : Array Slot), bl_X6_write_171 K (fx4 (lb_X6_write_44 K) n44) σ x1 x2 x3 x5 k0 k1 → PZ Z σ H → SZ Z s H locs → lv_has ls 7 [(0, .ref (zq Z 100)), (1, .int x1), (2, .int x2), (3, .int x3), (5, .int x5)] → W p l e (headSpec wsX6_write (rm9 5 110)).room s m args below meth c H locs 0 0 (MQ below (qcI Z K s.heap.size) args s 0 0 (aZ Z s.heap.size)) (F0 m 171 ls [.int k0, .int k1, .ref (zq Z 114)]) := by
        intro σ x1 x2 x3 x5 k0 k1 H locs ls h hP hS hl
        unfold bl_X6_write_171 at h
        obtain ⟨hin, h⟩ := h
        refine as_24 hZ hx hb hE hP hS kr_6_23 hin dX6_write_171 (fun H locs hP hS => ?_)
        refine lv_iload_n hx hb dX6_write_172 rfl (lv_at hl 2 rfl) ?_
        refine lv_iload hx hb dX6_write_173 (lv_at hl 4 rfl) ?_
        refine lv_if_eq (tgt := 182) hx hb dX6_write_175 (by decide) (fun hc => ?_) (fun hc => ?_)
        · have h := h.1 hc
          refine lv_iconst (v := 0) hx hb dX6_write_182 (by decide) ?_
          refine lv_iadd hx hb dX6_write_183 ?_
          refine lv_istore_n (lv' := [(2, .int (x2 + 0)), (0, .ref (zq Z 100)), (1, .int x1), (3, .int x3), (5, .int x5)]) hx hb dX6_write_184 rfl hl (by decide) rfl (fun ls hl => ?_)
          refine lv_iinc (v := (x3 + 1)) (lv' := [(3, .int (x3 + 1)), (2, .int (x2 + 0)), (0, .ref (zq Z 100)), (1, .int x1), (5, .int x5)]) hx hb dX6_write_185 hl (k := 3) rfl rfl (by decide) rfl (fun ls hl => ?_)
          refine lv_goto (tgt := 44) hx hb dX6_write_188 (by decide) ?_
          exact ih44 (sA σ 114 k1.toNatClampNeg (vp_nar .boolean k0)) x1 (x2 + 0) (x3 + 1) _ _ _ h hP hS (lv_sub hl [2, 3, 1, 0] rfl)
        · have h := h.2 hc
          refine lv_iconst (v := 1) hx hb dX6_write_178 (by decide) ?_
          refine lv_goto (tgt := 183) hx hb dX6_write_179 (by decide) ?_
          refine lv_iadd hx hb dX6_write_183 ?_
          refine lv_istore_n (lv' := [(2, .int (x2 + 1)), (0, .ref (zq Z 100)), (1, .int x1), (3, .int x3), (5, .int x5)]) hx hb dX6_write_184 rfl hl (by decide) rfl (fun ls hl => ?_)
          refine lv_iinc (v := (x3 + 1)) (lv' := [(3, .int (x3 + 1)), (2, .int (x2 + 1)), (0, .ref (zq Z 100)), (1, .int x1), (5, .int x5)]) hx hb dX6_write_185 hl (k := 3) rfl rfl (by decide) rfl (fun ls hl => ?_)
          refine lv_goto (tgt := 44) hx hb dX6_write_188 (by decide) ?_
          exact ih44 (sA σ 114 k1.toNatClampNeg (vp_nar .boolean k0)) x1 (x2 + 1) (x3 + 1) _ _ _ h hP hS (lv_sub hl [2, 3, 1, 0] rfl)
      have B150 : ∀ (σ : SS) (x1 : Int32) (x2 : Int32) (x3 : Int32) (x5 : Int32) (k0 : UInt64) (k1 : Int32) (H : Heap) (locs : List Loc) (ls : Array Slot), bl_X6_write_150 K (fx4 (lb_X6_write_44 K) n44) σ x1 x2 x3 x5 k0 k1 → PZ Z σ H → SZ Z s H locs → lv_has ls 7 [(0, .ref (zq Z 100)), (1, .int x1), (2, .int x2), (3, .int x3), (5, .int x5)] → W p l e (headSpec wsX6_write (rm9 5 110)).room s m args below meth c H locs 0 0 (MQ below (qcI Z K s.heap.size) args s 0 0 (aZ Z s.heap.size)) (F0 m 150 ls [.double k0, .int k1, .ref (zq Z 113)]) := by
        intro σ x1 x2 x3 x5 k0 k1 H locs ls h hP hS hl
        unfold bl_X6_write_150 at h
        obtain ⟨hin, h⟩ := h
        refine as_27 hZ hx hb hE hP hS kr_6_22 hin dX6_write_150 (fun H locs hP hS => ?_)
        refine lv_aload_n hx hb dX6_write_151 rfl (lv_at hl 0 rfl) ?_
        refine fg_6_23 hZ hx hb hts in6 hown hE hP kd100 lk62 dX6_write_152 ?_
        refine lv_bipush (v := 40) hx hb dX6_write_155 (by decide) ?_
        refine lv_iload_n hx hb dX6_write_157 rfl (lv_at hl 1 rfl) ?_
        refine lv_imul hx hb dX6_write_158 ?_
        refine lv_iload_n hx hb dX6_write_159 rfl (lv_at hl 3 rfl) ?_
        refine lv_iadd hx hb dX6_write_160 ?_
        refine lv_iload hx hb dX6_write_161 (lv_at hl 4 rfl) ?_
        refine lv_if_ne (tgt := 170) hx hb dX6_write_163 (by decide) (fun hc => ?_) (fun hc => ?_)
        · have h := h.1 hc
          refine lv_iconst (v := 0) hx hb dX6_write_170 (by decide) ?_
          exact B171 (sD σ 113 k1.toNatClampNeg k0) x1 x2 x3 x5 0 ((40 * x1) + x3) _ _ _ h hP hS (lv_sub hl [0, 1, 2, 3, 4] rfl)
        · have h := h.2 hc
          refine lv_iconst (v := 1) hx hb dX6_write_166 (by decide) ?_
          refine lv_goto (tgt := 171) hx hb dX6_write_167 (by decide) ?_
          exact B171 (sD σ 113 k1.toNatClampNeg k0) x1 x2 x3 x5 1 ((40 * x1) + x3) _ _ _ h hP hS (lv_sub hl [0, 1, 2, 3, 4] rfl)
      have B116 : ∀ (σ : SS) (x1 : Int32) (x2 : Int32) (x3 : Int32) (x4 : Int32) (x5 : Int32) (k0 : Int32) (H : Heap) (locs : List Loc) (ls : Array Slot), bl_X6_write_116 K (fx4 (lb_X6_write_44 K) n44) σ x1 x2 x3 x4 x5 k0 → PZ Z σ H → SZ Z s H locs → lv_has ls 7 [(0, .ref (zq Z 100)), (1, .int x1), (2, .int x2), (3, .int x3), (4, .int x4), (5, .int x5)] → W p l e (headSpec wsX6_write (rm9 5 110)).room s m args below meth c H locs 0 0 (MQ below (qcI Z K s.heap.size) args s 0 0 (aZ Z s.heap.size)) (F0 m 116 ls [.int k0]) := by
        intro σ x1 x2 x3 x4 x5 k0 H locs ls h hP hS hl
        unfold bl_X6_write_116 at h
        refine lv_istore (lv' := [(6, .int k0), (0, .ref (zq Z 100)), (1, .int x1), (2, .int x2), (3, .int x3), (4, .int x4), (5, .int x5)]) hx hb dX6_write_116 hl (by decide) rfl (fun ls hl => ?_)
        refine lv_aload_n hx hb dX6_write_118 rfl (lv_at hl 1 rfl) ?_
        refine fg_6_22 hZ hx hb hts in6 hown hE hP kd100 lk58 dX6_write_119 ?_
        refine lv_bipush (v := 40) hx hb dX6_write_122 (by decide) ?_
        refine lv_iload_n hx hb dX6_write_124 rfl (lv_at hl 2 rfl) ?_
        refine lv_imul hx hb dX6_write_125 ?_
        refine lv_iload_n hx hb dX6_write_126 rfl (lv_at hl 4 rfl) ?_
        refine lv_iadd hx hb dX6_write_127 ?_
        refine lv_iload hx hb dX6_write_128 (lv_at hl 6 rfl) ?_
        refine lv_if_eq (tgt := 149) hx hb dX6_write_130 (by decide) (fun hc => ?_) (fun hc => ?_)
        · have h := h.1 hc
          refine lv_dconst0 hx hb dX6_write_149 ?_
          exact B150 σ x1 x2 x3 x5 FP.dconst0 ((40 * x1) + x3) _ _ _ h hP hS (lv_sub hl [1, 2, 3, 4, 6] rfl)
        · have h := h.2 hc
          refine lv_iload hx hb dX6_write_133 (lv_at hl 0 rfl) ?_
          refine lv_i2d hx hb dX6_write_135 ?_
          refine lv_aload_n hx hb dX6_write_136 rfl (lv_at hl 1 rfl) ?_
          refine lv_iload hx hb dX6_write_137 (lv_at hl 5 rfl) ?_
          refine lv_iconst (v := 1) hx hb dX6_write_139 (by decide) ?_
          refine lv_isub hx hb dX6_write_140 ?_
          refine zc_VI (As := [.int (x4 - 1)]) (rest := [.double (FP.i2d k0), .int ((40 * x1) + x3), .ref (zq Z 113)]) ⟨hx, hb, hml, hown, hts⟩ (cwV 1 hts gX6_write_X6_belowBy rfl rfl rfl hd_X6_belowBy ⟨Nat.le_of_ble_eq_true rfl, Nat.le_of_ble_eq_true rfl⟩) (mt_X6_belowBy l hZ σ _ (x4 - 1) _ h) (rc_6 hZ hE hP kd100) hE hP hS rfl hl.1 rfl (Nat.le_of_ble_eq_true rfl) dX6_write_141 ⟨Nat.zero_le _, Nat.zero_le _⟩ (fun r141 σ141 H locs h hP hS => ?_)
          refine lv_i2d hx hb dX6_write_144 ?_
          obtain ⟨hne, h⟩ := h
          refine lv_ddiv hx hb dX6_write_145 hne ?_
          refine lv_goto (tgt := 150) hx hb dX6_write_146 (by decide) ?_
          exact B150 σ141 x1 x2 x3 x5 (FP.ddiv (FP.i2d k0) (FP.i2d r141)) ((40 * x1) + x3) _ _ _ h hP hS (lv_sub hl [1, 2, 3, 4, 6] rfl)
      have B80 : ∀ (σ : SS) (x1 : Int32) (x2 : Int32) (x3 : Int32) (x4 : Int32) (k0 : Int32) (H : Heap) (locs : List Loc) (ls : Array Slot), bl_X6_write_80 K (fx4 (lb_X6_write_44 K) n44) σ x1 x2 x3 x4 k0 → PZ Z σ H → SZ Z s H locs → lv_has ls 7 [(0, .ref (zq Z 100)), (1, .int x1), (2, .int x2), (3, .int x3), (4, .int x4)] → W p l e (headSpec wsX6_write (rm9 5 110)).room s m args below meth c H locs 0 0 (MQ below (qcI Z K s.heap.size) args s 0 0 (aZ Z s.heap.size)) (F0 m 80 ls [.int k0]) := by
        intro σ x1 x2 x3 x4 k0 H locs ls h hP hS hl
        unfold bl_X6_write_80 at h
        refine lv_istore (lv' := [(5, .int k0), (0, .ref (zq Z 100)), (1, .int x1), (2, .int x2), (3, .int x3), (4, .int x4)]) hx hb dX6_write_80 hl (by decide) rfl (fun ls hl => ?_)
        refine lv_iload hx hb dX6_write_82 (lv_at hl 0 rfl) ?_
        refine lv_if_eq (tgt := 115) hx hb dX6_write_84 (by decide) (fun hc => ?_) (fun hc => ?_)
        · have h := h.1 hc
          refine lv_iconst (v := 0) hx hb dX6_write_115 (by decide) ?_
          exact B116 σ x1 x2 x3 x4 k0 0 _ _ _ h hP hS (lv_sub hl [1, 2, 3, 4, 5, 0] rfl)
        · have h := h.2 hc
          refine lv_aload_n hx hb dX6_write_87 rfl (lv_at hl 1 rfl) ?_
          refine fg_6_6 hZ hx hb hts in6 hown hE hP kd100 lk26 dX6_write_88 ?_
          refine lv_iload hx hb dX6_write_91 (lv_at hl 5 rfl) ?_
          obtain ⟨hin, h⟩ := h
          refine al_20 hZ hx hb hE hP kr_6_6 hin dX6_write_93 ?_
          refine lv_aload_n hx hb dX6_write_94 rfl (lv_at hl 1 rfl) ?_
          refine lv_iload hx hb dX6_write_95 (lv_at hl 5 rfl) ?_
          refine lv_iconst (v := 1) hx hb dX6_write_97 (by decide) ?_
          refine lv_isub hx hb dX6_write_98 ?_
          refine zc_VI (As := [.int (x4 - 1)]) (rest := [.int (gA σ 103 x4.toNatClampNeg)]) ⟨hx, hb, hml, hown, hts⟩ (cwV 1 hts gX6_write_X6_belowBy rfl rfl rfl hd_X6_belowBy ⟨Nat.le_of_ble_eq_true rfl, Nat.le_of_ble_eq_true rfl⟩) (mt_X6_belowBy l hZ σ _ (x4 - 1) _ h) (rc_6 hZ hE hP kd100) hE hP hS rfl hl.1 rfl (Nat.le_of_ble_eq_true rfl) dX6_write_99 ⟨Nat.zero_le _, Nat.zero_le _⟩ (fun r99 σ99 H locs h hP hS => ?_)
          refine lv_imul hx hb dX6_write_102 ?_
          refine lv_aload_n hx hb dX6_write_103 rfl (lv_at hl 1 rfl) ?_
          refine lv_iload hx hb dX6_write_104 (lv_at hl 5 rfl) ?_
          refine lv_iconst (v := 1) hx hb dX6_write_106 (by decide) ?_
          refine lv_isub hx hb dX6_write_107 ?_
          refine zc_VI (As := [.int (x4 - 1)]) (rest := [.int ((gA σ 103 x4.toNatClampNeg) * r99)]) ⟨hx, hb, hml, hown, hts⟩ (cwV 1 hts gX6_write_X6_aboveBy rfl rfl rfl hd_X6_aboveBy ⟨Nat.le_of_ble_eq_true rfl, Nat.le_of_ble_eq_true rfl⟩) (mt_X6_aboveBy l hZ σ99 _ (x4 - 1) _ h) (rc_6 hZ hE hP kd100) hE hP hS rfl hl.1 rfl (Nat.le_of_ble_eq_true rfl) dX6_write_108 ⟨Nat.zero_le _, Nat.zero_le _⟩ (fun r108 σ108 H locs h hP hS => ?_)
          refine lv_isub hx hb dX6_write_111 ?_
          refine lv_goto (tgt := 116) hx hb dX6_write_112 (by decide) ?_
          exact B116 σ108 x1 x2 x3 x4 k0 (((gA σ 103 x4.toNatClampNeg) * r99) - r108) _ _ _ h hP hS (lv_sub hl [1, 2, 3, 4, 5, 0] rfl)
      intro σ x1 x2 x3 H locs ls h hP hS hl
      have h : lb_X6_write_44 K (fx4 (lb_X6_write_44 K) n44) σ x1 x2 x3 := h
      unfold lb_X6_write_44 at h
      refine lv_iload_n hx hb dX6_write_44 rfl (lv_at hl 3 rfl) ?_
      refine lv_aload_n hx hb dX6_write_45 rfl (lv_at hl 0 rfl) ?_
      refine fg_6_1 hZ hx hb hts in6 hown hE hP kd100 lk80 dX6_write_46 ?_
      refine lv_icmp_ge (tgt := 191) hx hb dX6_write_49 (by decide) (fun hc => ?_) (fun hc => ?_)
      · have h := h.1 hc
        refine lv_iload_n hx hb dX6_write_191 rfl (lv_at hl 2 rfl) ?_
        exact zr_I hx hb hr hlocks hP hS h dX6_write_192
      · have h := h.2 hc
        refine lv_iload_n hx hb dX6_write_52 rfl (lv_at hl 3 rfl) ?_
        refine lv_aload_n hx hb dX6_write_53 rfl (lv_at hl 0 rfl) ?_
        refine fg_6_20 hZ hx hb hts in6 hown hE hP kd100 lk51 dX6_write_54 ?_
        refine lv_iload_n hx hb dX6_write_57 rfl (lv_at hl 1 rfl) ?_
        obtain ⟨hin, h⟩ := h
        refine al_22 hZ hx hb hE hP kr_6_20 hin dX6_write_58 ?_
        refine lv_icmp_ge (tgt := 191) hx hb dX6_write_59 (by decide) (fun hc => ?_) (fun hc => ?_)
        · have h := h.1 hc
          refine lv_iload_n hx hb dX6_write_191 rfl (lv_at hl 2 rfl) ?_
          exact zr_I hx hb hr hlocks hP hS h dX6_write_192
        · have h := h.2 hc
          refine lv_aload_n hx hb dX6_write_62 rfl (lv_at hl 0 rfl) ?_
          refine lv_iload_n hx hb dX6_write_63 rfl (lv_at hl 3 rfl) ?_
          refine lv_iconst (v := 2) hx hb dX6_write_64 (by decide) ?_
          refine zc_VI (As := [.int x3, .int 2]) (rest := []) ⟨hx, hb, hml, hown, hts⟩ (cwV 2 hts gX6_write_X6_cameOf rfl rfl rfl hd_X6_cameOf ⟨Nat.le_of_ble_eq_true rfl, Nat.le_of_ble_eq_true rfl⟩) (mt_X6_cameOf l hZ σ _ x3 2 _ h) (rc_6 hZ hE hP kd100) hE hP hS rfl hl.1 rfl (Nat.le_of_ble_eq_true rfl) dX6_write_65 ⟨Nat.zero_le _, Nat.zero_le _⟩ (fun r65 σ65 H locs h hP hS => ?_)
          refine lv_istore (lv' := [(4, .int r65), (0, .ref (zq Z 100)), (1, .int x1), (2, .int x2), (3, .int x3)]) hx hb dX6_write_68 hl (by decide) rfl (fun ls hl => ?_)
          refine lv_iload hx hb dX6_write_70 (lv_at hl 0 rfl) ?_
          refine lv_if_le (tgt := 79) hx hb dX6_write_72 (by decide) (fun hc => ?_) (fun hc => ?_)
          · have h := h.1 hc
            refine lv_iconst (v := 0) hx hb dX6_write_79 (by decide) ?_
            exact B80 σ65 x1 x2 x3 r65 0 _ _ _ h hP hS (lv_sub hl [1, 2, 3, 4, 0] rfl)
          · have h := h.2 hc
            refine lv_iconst (v := 1) hx hb dX6_write_75 (by decide) ?_
            refine lv_goto (tgt := 80) hx hb dX6_write_76 (by decide) ?_
            exact B80 σ65 x1 x2 x3 r65 1 _ _ _ h hP hS (lv_sub hl [1, 2, 3, 4, 0] rfl)
  unfold wp_X6_write at h
  refine lv_iload_n hx hb dX6_write_0 rfl (lv_at hl 1 rfl) ?_
  refine zc_SI (As := [.int x1]) (rest := []) ⟨hx, hb, hml, hown, hts⟩ (va_cwS 1 hts gX6_write_X6_isSheet rfl rfl rfl hd_X6_isSheet ⟨Nat.le_of_ble_eq_true rfl, Nat.le_of_ble_eq_true rfl⟩) (mt_X6_isSheet l hZ σ _ x1 _ h) hE hP hS rfl hl.1 rfl (Nat.le_of_ble_eq_true rfl) dX6_write_1 ⟨Nat.zero_le _, Nat.zero_le _⟩ (fun r1 σ1 H locs h hP hS => ?_)
  refine lv_if_ne (tgt := 10) hx hb dX6_write_4 (by decide) (fun hc => ?_) (fun hc => ?_)
  · have h := h.1 hc
    refine lv_aload_n hx hb dX6_write_10 rfl (lv_at hl 0 rfl) ?_
    refine fg_6_19 hZ hx hb hts in6 hown hE hP kd100 lk48 dX6_write_11 ?_
    refine lv_iload_n hx hb dX6_write_14 rfl (lv_at hl 1 rfl) ?_
    obtain ⟨hin, h⟩ := h
    refine al_22 hZ hx hb hE hP kr_6_19 hin dX6_write_15 ?_
    refine lv_iconst (v := 1) hx hb dX6_write_16 (by decide) ?_
    refine lv_icmp_eq (tgt := 40) hx hb dX6_write_17 (by decide) (fun hc => ?_) (fun hc => ?_)
    · have h := h.1 hc
      refine lv_iconst (v := 0) hx hb dX6_write_40 (by decide) ?_
      refine lv_istore_n (lv' := [(2, .int 0), (0, .ref (zq Z 100)), (1, .int x1)]) hx hb dX6_write_41 rfl hl (by decide) rfl (fun ls hl => ?_)
      refine lv_iconst (v := 0) hx hb dX6_write_42 (by decide) ?_
      refine lv_istore_n (lv' := [(3, .int 0), (2, .int 0), (0, .ref (zq Z 100)), (1, .int x1)]) hx hb dX6_write_43 rfl hl (by decide) rfl (fun ls hl => ?_)
      obtain ⟨n, h⟩ := h
      exact B44 n σ1 x1 0 0 _ _ _ h hP hS (lv_sub hl [2, 3, 1, 0] rfl)
    · have h := h.2 hc
      refine lv_aload_n hx hb dX6_write_20 rfl (lv_at hl 0 rfl) ?_
      refine lv_aload_n hx hb dX6_write_21 rfl (lv_at hl 0 rfl) ?_
      refine fg_6_19 hZ hx hb hts in6 hown hE hP kd100 lk48 dX6_write_22 ?_
      refine lv_iload_n hx hb dX6_write_25 rfl (lv_at hl 1 rfl) ?_
      obtain ⟨hin, h⟩ := h
      refine al_22 hZ hx hb hE hP kr_6_19 hin dX6_write_26 ?_
      refine lv_iconst (v := (-1)) hx hb dX6_write_27 (by decide) ?_
      refine lv_icmp_ne (tgt := 35) hx hb dX6_write_28 (by decide) (fun hc => ?_) (fun hc => ?_)
      · have h := h.1 hc
        refine lv_iconst (v := 3) hx hb dX6_write_35 (by decide) ?_
        refine zc_VI (As := [.int 3]) (rest := []) ⟨hx, hb, hml, hown, hts⟩ (cwV 1 hts gX6_write_X6_meets rfl rfl rfl hd_X6_meets ⟨Nat.le_of_ble_eq_true rfl, Nat.le_of_ble_eq_true rfl⟩) (mt_X6_meets l hZ σ1 _ 3 _ h) (rc_6 hZ hE hP kd100) hE hP hS rfl hl.1 rfl (Nat.le_of_ble_eq_true rfl) dX6_write_36 ⟨Nat.zero_le _, Nat.zero_le _⟩ (fun r36 σ36 H locs h hP hS => ?_)
        exact zr_I hx hb hr hlocks hP hS h dX6_write_39
      · have h := h.2 hc
        refine lv_iconst (v := 1) hx hb dX6_write_31 (by decide) ?_
        refine lv_goto (tgt := 36) hx hb dX6_write_32 (by decide) ?_
        refine zc_VI (As := [.int 1]) (rest := []) ⟨hx, hb, hml, hown, hts⟩ (cwV 1 hts gX6_write_X6_meets rfl rfl rfl hd_X6_meets ⟨Nat.le_of_ble_eq_true rfl, Nat.le_of_ble_eq_true rfl⟩) (mt_X6_meets l hZ σ1 _ 1 _ h) (rc_6 hZ hE hP kd100) hE hP hS rfl hl.1 rfl (Nat.le_of_ble_eq_true rfl) dX6_write_36 ⟨Nat.zero_le _, Nat.zero_le _⟩ (fun r36 σ36 H locs h hP hS => ?_)
        exact zr_I hx hb hr hlocks hP hS h dX6_write_39
  · have h := h.2 hc
    refine lv_bipush (v := (-2)) hx hb dX6_write_7 (by decide) ?_
    exact zr_I hx hb hr hlocks hP hS h dX6_write_9
theorem hd_X6_found : yX6_found.cls = RX6 ∧ yX6_found.cls ≠ "java/lang/invoke/MethodHandle" ∧ yX6_found.cls ≠ "java/lang/invoke/VarHandle" ∧ (parseMethodDescriptor yX6_found.desc).map (fun d => d.parameters.length) = some 3 := by decide +kernel
set_option maxHeartbeats 4000000 in
set_option maxRecDepth 100000 in
theorem mt_X6_found (l : Launch) {Z : ZW} (hZ : isM Z) (σ : SS) (sz : Nat) (x1 : Int32) (x2 : Int32) (x3 : Int32) (K : SS → Int32 → Prop) (h : wp_X6_found σ x1 x2 x3 K) : mtZ l yX6_found wsX6_found (rm9 2 42) Z [.ref (zq Z 100), .int x1, .int x2, .int x3] σ sz (qcI Z K sz) := by
  refine Met.ofW (cc := cX6_found) (maxL := 9) (ret := (some .int)) (by decide) rfl ?_
  intro p e s m args below meth c s₁ B hml hv
  obtain ⟨hargs, hsz, hP, hE1, hE2, hE3⟩ := hv
  subst hsz
  have hE : envZ Z s := ⟨hE1, hE2, hE3⟩
  have hx := B.exec
  have hb := B.bytes
  have hr := B.returns
  have hlocks := B.notSynchronized
  have hts := atoms_spec (ws := wsX6_found) B.pre
  have hown : s.vm.findClass RX6 = some m.cls := findClass_of_methodNamed B.named
  have hS : SZ Z s s.heap [] := va_S.rf
  obtain ⟨ls, hef, hl⟩ := z_entry m hargs (n := 9) (Nat.le_of_ble_eq_true rfl)
  rw [hef]
  have hl : lv_has ls 9 [(0, .ref (zq Z 100)), (1, .int x1), (2, .int x2), (3, .int x3)] := hl
  have in6 : ∀ w ∈ u_ws RX6 TX6 28, w ∈ wsX6_found := by decide +kernel
  have lk237 := hts (.constantDouble RX6 237 (4620693217682128896)) (by decide +kernel)
  have lk48 := hts (.fieldLink RX6 48 "BeatDoubtsModel" "forms" "[I") (by decide +kernel)
  have lk51 := hts (.fieldLink RX6 51 "BeatDoubtsModel" "sizes" "[I") (by decide +kernel)
  have lk58 := hts (.fieldLink RX6 58 "BeatDoubtsModel" "numbers" "[D") (by decide +kernel)
  have lk62 := hts (.fieldLink RX6 62 "BeatDoubtsModel" "blanks" "[Z") (by decide +kernel)
  have B66 : ∀ (n : Nat) (σ : SS) (x1 : Int32) (x2 : Int32) (x4 : Int32) (x5 : UInt64) (x7 : Int32) (H : Heap) (locs : List Loc) (ls : Array Slot), fx6 (lb_X6_found_66 K) n σ x1 x2 x4 x5 x7 → PZ Z σ H → SZ Z s H locs → lv_has ls 9 [(0, .ref (zq Z 100)), (1, .int x1), (2, .int x2), (4, .int x4), (5, .double x5), (7, .int x7)] → W p l e (headSpec wsX6_found (rm9 2 42)).room s m args below meth c H locs 0 0 (MQ below (qcI Z K s.heap.size) args s 0 0 (aZ Z s.heap.size)) (F0 m 66 ls []) := by
    intro n66
    induction n66 with
    | zero => intro σ x1 x2 x4 x5 x7 H locs ls h; exact h.elim
    | succ n66 ih66 =>
      have B145 : ∀ (σ : SS) (x1 : Int32) (x2 : Int32) (x4 : Int32) (x5 : UInt64) (x7 : Int32) (k0 : Int32) (H : Heap) (locs : List Loc) (ls : Array Slot), bl_X6_found_145 K (fx6 (lb_X6_found_66 K) n66) σ x1 x2 x4 x5 x7 k0 → PZ Z σ H → SZ Z s H locs → lv_has ls 9 [(0, .ref (zq Z 100)), (1, .int x1), (2, .int x2), (4, .int x4), (5, .double x5), (7, .int x7)] → W p l e (headSpec wsX6_found (rm9 2 42)).room s m args below meth c H locs 0 0 (MQ below (qcI Z K s.heap.size) args s 0 0 (aZ Z s.heap.size)) (F0 m 145 ls [.int k0]) := by
        intro σ x1 x2 x4 x5 x7 k0 H locs ls h hP hS hl
        unfold bl_X6_found_145 at h
        refine lv_istore (lv' := [(8, .int k0), (0, .ref (zq Z 100)), (1, .int x1), (2, .int x2), (4, .int x4), (5, .double x5), (7, .int x7)]) hx hb dX6_found_145 hl (by decide) rfl (fun ls hl => ?_)
        refine lv_iload hx hb dX6_found_147 (lv_at hl 4 rfl) ?_
        refine lv_iload hx hb dX6_found_149 (lv_at hl 0 rfl) ?_
        refine lv_if_eq (tgt := 158) hx hb dX6_found_151 (by decide) (fun hc => ?_) (fun hc => ?_)
        · have h := h.1 hc
          refine lv_iconst (v := 0) hx hb dX6_found_158 (by decide) ?_
          refine lv_iadd hx hb dX6_found_159 ?_
          refine lv_istore (lv' := [(4, .int (x4 + 0)), (8, .int k0), (0, .ref (zq Z 100)), (1, .int x1), (2, .int x2), (5, .double x5), (7, .int x7)]) hx hb dX6_found_160 hl (by decide) rfl (fun ls hl => ?_)
          refine lv_iinc (v := (x7 + 1)) (lv' := [(7, .int (x7 + 1)), (4, .int (x4 + 0)), (8, .int k0), (0, .ref (zq Z 100)), (1, .int x1), (2, .int x2), (5, .double x5)]) hx hb dX6_found_162 hl (k := 6) rfl rfl (by decide) rfl (fun ls hl => ?_)
          refine lv_goto (tgt := 66) hx hb dX6_found_165 (by decide) ?_
          exact ih66 σ x1 x2 (x4 + 0) x5 (x7 + 1) _ _ _ h hP hS (lv_sub hl [3, 4, 5, 1, 6, 0] rfl)
        · have h := h.2 hc
          refine lv_iconst (v := 1) hx hb dX6_found_154 (by decide) ?_
          refine lv_goto (tgt := 159) hx hb dX6_found_155 (by decide) ?_
          refine lv_iadd hx hb dX6_found_159 ?_
          refine lv_istore (lv' := [(4, .int (x4 + 1)), (8, .int k0), (0, .ref (zq Z 100)), (1, .int x1), (2, .int x2), (5, .double x5), (7, .int x7)]) hx hb dX6_found_160 hl (by decide) rfl (fun ls hl => ?_)
          refine lv_iinc (v := (x7 + 1)) (lv' := [(7, .int (x7 + 1)), (4, .int (x4 + 1)), (8, .int k0), (0, .ref (zq Z 100)), (1, .int x1), (2, .int x2), (5, .double x5)]) hx hb dX6_found_162 hl (k := 6) rfl rfl (by decide) rfl (fun ls hl => ?_)
          refine lv_goto (tgt := 66) hx hb dX6_found_165 (by decide) ?_
          exact ih66 σ x1 x2 (x4 + 1) x5 (x7 + 1) _ _ _ h hP hS (lv_sub hl [3, 4, 5, 1, 6, 0] rfl)
      intro σ x1 x2 x4 x5 x7 H locs ls h hP hS hl
      have h : lb_X6_found_66 K (fx6 (lb_X6_found_66 K) n66) σ x1 x2 x4 x5 x7 := h
      unfold lb_X6_found_66 at h
      refine lv_iload hx hb dX6_found_66 (lv_at hl 5 rfl) ?_
      refine lv_bipush (v := 40) hx hb dX6_found_68 (by decide) ?_
      refine lv_iload_n hx hb dX6_found_70 rfl (lv_at hl 1 rfl) ?_
      refine lv_imul hx hb dX6_found_71 ?_
      refine lv_aload_n hx hb dX6_found_72 rfl (lv_at hl 0 rfl) ?_
      refine fg_6_20 hZ hx hb hts in6 hown hE hP kd100 lk51 dX6_found_73 ?_
      refine lv_iload_n hx hb dX6_found_76 rfl (lv_at hl 1 rfl) ?_
      obtain ⟨hin, h⟩ := h
      refine al_22 hZ hx hb hE hP kr_6_20 hin dX6_found_77 ?_
      refine lv_iadd hx hb dX6_found_78 ?_
      refine lv_icmp_ge (tgt := 168) hx hb dX6_found_79 (by decide) (fun hc => ?_) (fun hc => ?_)
      · have h := h.1 hc
        refine lv_iload hx hb dX6_found_168 (lv_at hl 3 rfl) ?_
        exact zr_I hx hb hr hlocks hP hS h dX6_found_170
      · have h := h.2 hc
        refine lv_iload_n hx hb dX6_found_82 rfl (lv_at hl 2 rfl) ?_
        refine lv_if_ne (tgt := 96) hx hb dX6_found_83 (by decide) (fun hc => ?_) (fun hc => ?_)
        · have h := h.1 hc
          refine lv_aload_n hx hb dX6_found_96 rfl (lv_at hl 0 rfl) ?_
          refine fg_6_23 hZ hx hb hts in6 hown hE hP kd100 lk62 dX6_found_97 ?_
          refine lv_iload hx hb dX6_found_100 (lv_at hl 5 rfl) ?_
          obtain ⟨hin, h⟩ := h
          refine al_24 hZ hx hb hE hP kr_6_23 hin dX6_found_102 ?_
          refine lv_if_ne (tgt := 144) hx hb dX6_found_103 (by decide) (fun hc => ?_) (fun hc => ?_)
          · have h := h.1 hc
            refine lv_iconst (v := 0) hx hb dX6_found_144 (by decide) ?_
            exact B145 σ x1 x2 x4 x5 x7 0 _ _ _ h hP hS (lv_sub hl [0, 1, 2, 3, 4, 5] rfl)
          · have h := h.2 hc
            refine lv_iload_n hx hb dX6_found_106 rfl (lv_at hl 2 rfl) ?_
            refine lv_iconst (v := 1) hx hb dX6_found_107 (by decide) ?_
            refine lv_icmp_ne (tgt := 127) hx hb dX6_found_108 (by decide) (fun hc => ?_) (fun hc => ?_)
            · have h := h.1 hc
              refine lv_aload_n hx hb dX6_found_127 rfl (lv_at hl 0 rfl) ?_
              refine fg_6_22 hZ hx hb hts in6 hown hE hP kd100 lk58 dX6_found_128 ?_
              refine lv_iload hx hb dX6_found_131 (lv_at hl 5 rfl) ?_
              obtain ⟨hin, h⟩ := h
              refine al_27 hZ hx hb hE hP kr_6_22 hin dX6_found_133 ?_
              refine lv_dload hx hb dX6_found_134 (lv_at hl 4 rfl) ?_
              refine lv_dcmp hx hb dX6_found_136 ?_
              refine lv_if_ge (tgt := 144) hx hb dX6_found_137 (by decide) (fun hc => ?_) (fun hc => ?_)
              · have h := h.1 hc
                refine lv_iconst (v := 0) hx hb dX6_found_144 (by decide) ?_
                exact B145 σ x1 x2 x4 x5 x7 0 _ _ _ h hP hS (lv_sub hl [0, 1, 2, 3, 4, 5] rfl)
              · have h := h.2 hc
                refine lv_iconst (v := 1) hx hb dX6_found_140 (by decide) ?_
                refine lv_goto (tgt := 145) hx hb dX6_found_141 (by decide) ?_
                exact B145 σ x1 x2 x4 x5 x7 1 _ _ _ h hP hS (lv_sub hl [0, 1, 2, 3, 4, 5] rfl)
            · have h := h.2 hc
              refine lv_aload_n hx hb dX6_found_111 rfl (lv_at hl 0 rfl) ?_
              refine fg_6_22 hZ hx hb hts in6 hown hE hP kd100 lk58 dX6_found_112 ?_
              refine lv_iload hx hb dX6_found_115 (lv_at hl 5 rfl) ?_
              obtain ⟨hin, h⟩ := h
              refine al_27 hZ hx hb hE hP kr_6_22 hin dX6_found_117 ?_
              refine lv_dload hx hb dX6_found_118 (lv_at hl 4 rfl) ?_
              refine lv_dcmp hx hb dX6_found_120 ?_
              refine lv_if_le (tgt := 144) hx hb dX6_found_121 (by decide) (fun hc => ?_) (fun hc => ?_)
              · have h := h.1 hc
                refine lv_iconst (v := 0) hx hb dX6_found_144 (by decide) ?_
                exact B145 σ x1 x2 x4 x5 x7 0 _ _ _ h hP hS (lv_sub hl [0, 1, 2, 3, 4, 5] rfl)
              · have h := h.2 hc
                refine lv_goto (tgt := 140) hx hb dX6_found_124 (by decide) ?_
                refine lv_iconst (v := 1) hx hb dX6_found_140 (by decide) ?_
                refine lv_goto (tgt := 145) hx hb dX6_found_141 (by decide) ?_
                exact B145 σ x1 x2 x4 x5 x7 1 _ _ _ h hP hS (lv_sub hl [0, 1, 2, 3, 4, 5] rfl)
        · have h := h.2 hc
          refine lv_aload_n hx hb dX6_found_86 rfl (lv_at hl 0 rfl) ?_
          refine fg_6_23 hZ hx hb hts in6 hown hE hP kd100 lk62 dX6_found_87 ?_
          refine lv_iload hx hb dX6_found_90 (lv_at hl 5 rfl) ?_
          obtain ⟨hin, h⟩ := h
          refine al_24 hZ hx hb hE hP kr_6_23 hin dX6_found_92 ?_
          refine lv_goto (tgt := 145) hx hb dX6_found_93 (by decide) ?_
          exact B145 σ x1 x2 x4 x5 x7 (gA σ 114 x7.toNatClampNeg) _ _ _ h hP hS (lv_sub hl [0, 1, 2, 3, 4, 5] rfl)
  unfold wp_X6_found at h
  refine lv_iload_n hx hb dX6_found_0 rfl (lv_at hl 1 rfl) ?_
  refine zc_SI (As := [.int x1]) (rest := []) ⟨hx, hb, hml, hown, hts⟩ (va_cwS 1 hts gX6_found_X6_isSheet rfl rfl rfl hd_X6_isSheet ⟨Nat.le_of_ble_eq_true rfl, Nat.le_of_ble_eq_true rfl⟩) (mt_X6_isSheet l hZ σ _ x1 _ h) hE hP hS rfl hl.1 rfl (Nat.le_of_ble_eq_true rfl) dX6_found_1 ⟨Nat.zero_le _, Nat.zero_le _⟩ (fun r1 σ1 H locs h hP hS => ?_)
  refine lv_if_eq (tgt := 16) hx hb dX6_found_4 (by decide) (fun hc => ?_) (fun hc => ?_)
  · have h := h.1 hc
    refine lv_bipush (v := (-2)) hx hb dX6_found_16 (by decide) ?_
    exact zr_I hx hb hr hlocks hP hS h dX6_found_18
  · have h := h.2 hc
    refine lv_iload_n hx hb dX6_found_7 rfl (lv_at hl 2 rfl) ?_
    refine lv_iconst (v := 0) hx hb dX6_found_8 (by decide) ?_
    refine lv_iconst (v := 2) hx hb dX6_found_9 (by decide) ?_
    refine zc_SI (As := [.int x2, .int 0, .int 2]) (rest := []) ⟨hx, hb, hml, hown, hts⟩ (va_cwS 3 hts gX6_found_X6_in rfl rfl rfl hd_X6_in ⟨Nat.le_of_ble_eq_true rfl, Nat.le_of_ble_eq_true rfl⟩) (mt_X6_in l hZ σ1 _ x2 0 2 _ h) hE hP hS rfl hl.1 rfl (Nat.le_of_ble_eq_true rfl) dX6_found_10 ⟨Nat.zero_le _, Nat.zero_le _⟩ (fun r10 σ10 H locs h hP hS => ?_)
    refine lv_if_ne (tgt := 19) hx hb dX6_found_13 (by decide) (fun hc => ?_) (fun hc => ?_)
    · have h := h.1 hc
      refine lv_aload_n hx hb dX6_found_19 rfl (lv_at hl 0 rfl) ?_
      refine fg_6_19 hZ hx hb hts in6 hown hE hP kd100 lk48 dX6_found_20 ?_
      refine lv_iload_n hx hb dX6_found_23 rfl (lv_at hl 1 rfl) ?_
      obtain ⟨hin, h⟩ := h
      refine al_22 hZ hx hb hE hP kr_6_19 hin dX6_found_24 ?_
      refine lv_iconst (v := 1) hx hb dX6_found_25 (by decide) ?_
      refine lv_icmp_eq (tgt := 49) hx hb dX6_found_26 (by decide) (fun hc => ?_) (fun hc => ?_)
      · have h := h.1 hc
        refine lv_iconst (v := 0) hx hb dX6_found_49 (by decide) ?_
        refine lv_istore (lv' := [(4, .int 0), (0, .ref (zq Z 100)), (1, .int x1), (2, .int x2), (3, .int x3)]) hx hb dX6_found_50 hl (by decide) rfl (fun ls hl => ?_)
        refine lv_iload_n hx hb dX6_found_52 rfl (lv_at hl 4 rfl) ?_
        refine lv_i2d hx hb dX6_found_53 ?_
        refine lv_ldc2d (v := 4620693217682128896) hx hb hown lk237 dX6_found_54 ?_
        obtain ⟨hne, h⟩ := h
        refine lv_ddiv hx hb dX6_found_57 hne ?_
        refine lv_dstore (lv' := [(5, .double (FP.ddiv (FP.i2d x3) 4620693217682128896)), (4, .int 0), (0, .ref (zq Z 100)), (1, .int x1), (2, .int x2), (3, .int x3)]) hx hb dX6_found_58 hl (by decide) rfl (fun ls hl => ?_)
        refine lv_bipush (v := 40) hx hb dX6_found_60 (by decide) ?_
        refine lv_iload_n hx hb dX6_found_62 rfl (lv_at hl 3 rfl) ?_
        refine lv_imul hx hb dX6_found_63 ?_
        refine lv_istore (lv' := [(7, .int (40 * x1)), (5, .double (FP.ddiv (FP.i2d x3) 4620693217682128896)), (4, .int 0), (0, .ref (zq Z 100)), (1, .int x1), (2, .int x2), (3, .int x3)]) hx hb dX6_found_64 hl (by decide) rfl (fun ls hl => ?_)
        obtain ⟨n, h⟩ := h
        exact B66 n σ10 x1 x2 0 (FP.ddiv (FP.i2d x3) 4620693217682128896) (40 * x1) _ _ _ h hP hS (lv_sub hl [3, 4, 5, 2, 1, 0] rfl)
      · have h := h.2 hc
        refine lv_aload_n hx hb dX6_found_29 rfl (lv_at hl 0 rfl) ?_
        refine lv_aload_n hx hb dX6_found_30 rfl (lv_at hl 0 rfl) ?_
        refine fg_6_19 hZ hx hb hts in6 hown hE hP kd100 lk48 dX6_found_31 ?_
        refine lv_iload_n hx hb dX6_found_34 rfl (lv_at hl 1 rfl) ?_
        obtain ⟨hin, h⟩ := h
        refine al_22 hZ hx hb hE hP kr_6_19 hin dX6_found_35 ?_
        refine lv_iconst (v := (-1)) hx hb dX6_found_36 (by decide) ?_
        refine lv_icmp_ne (tgt := 44) hx hb dX6_found_37 (by decide) (fun hc => ?_) (fun hc => ?_)
        · have h := h.1 hc
          refine lv_iconst (v := 3) hx hb dX6_found_44 (by decide) ?_
          refine zc_VI (As := [.int 3]) (rest := []) ⟨hx, hb, hml, hown, hts⟩ (cwV 1 hts gX6_found_X6_meets rfl rfl rfl hd_X6_meets ⟨Nat.le_of_ble_eq_true rfl, Nat.le_of_ble_eq_true rfl⟩) (mt_X6_meets l hZ σ10 _ 3 _ h) (rc_6 hZ hE hP kd100) hE hP hS rfl hl.1 rfl (Nat.le_of_ble_eq_true rfl) dX6_found_45 ⟨Nat.zero_le _, Nat.zero_le _⟩ (fun r45 σ45 H locs h hP hS => ?_)
          exact zr_I hx hb hr hlocks hP hS h dX6_found_48
        · have h := h.2 hc
          refine lv_iconst (v := 1) hx hb dX6_found_40 (by decide) ?_
          refine lv_goto (tgt := 45) hx hb dX6_found_41 (by decide) ?_
          refine zc_VI (As := [.int 1]) (rest := []) ⟨hx, hb, hml, hown, hts⟩ (cwV 1 hts gX6_found_X6_meets rfl rfl rfl hd_X6_meets ⟨Nat.le_of_ble_eq_true rfl, Nat.le_of_ble_eq_true rfl⟩) (mt_X6_meets l hZ σ10 _ 1 _ h) (rc_6 hZ hE hP kd100) hE hP hS rfl hl.1 rfl (Nat.le_of_ble_eq_true rfl) dX6_found_45 ⟨Nat.zero_le _, Nat.zero_le _⟩ (fun r45 σ45 H locs h hP hS => ?_)
          exact zr_I hx hb hr hlocks hP hS h dX6_found_48
    · have h := h.2 hc
      refine lv_bipush (v := (-2)) hx hb dX6_found_16 (by decide) ?_
      exact zr_I hx hb hr hlocks hP hS h dX6_found_18
theorem hd_X6_lostMany : yX6_lostMany.cls = RX6 ∧ yX6_lostMany.cls ≠ "java/lang/invoke/MethodHandle" ∧ yX6_lostMany.cls ≠ "java/lang/invoke/VarHandle" ∧ (parseMethodDescriptor yX6_lostMany.desc).map (fun d => d.parameters.length) = some 0 := by decide +kernel
set_option maxHeartbeats 4000000 in
set_option maxRecDepth 100000 in
theorem mt_X6_lostMany (l : Launch) {Z : ZW} (hZ : isM Z) (σ : SS) (sz : Nat) (K : SS → Int32 → Prop) (h : wp_X6_lostMany σ K) : mtZ l yX6_lostMany wsX6_lostMany (rm9 1 21) Z [.ref (zq Z 100)] σ sz (qcI Z K sz) := by
  refine Met.ofW (cc := cX6_lostMany) (maxL := 3) (ret := (some .int)) (by decide) rfl ?_
  intro p e s m args below meth c s₁ B hml hv
  obtain ⟨hargs, hsz, hP, hE1, hE2, hE3⟩ := hv
  subst hsz
  have hE : envZ Z s := ⟨hE1, hE2, hE3⟩
  have hx := B.exec
  have hb := B.bytes
  have hr := B.returns
  have hlocks := B.notSynchronized
  have hts := atoms_spec (ws := wsX6_lostMany) B.pre
  have hown : s.vm.findClass RX6 = some m.cls := findClass_of_methodNamed B.named
  have hS : SZ Z s s.heap [] := va_S.rf
  obtain ⟨ls, hef, hl⟩ := z_entry m hargs (n := 3) (Nat.le_of_ble_eq_true rfl)
  rw [hef]
  have hl : lv_has ls 3 [(0, .ref (zq Z 100))] := hl
  have in6 : ∀ w ∈ u_ws RX6 TX6 28, w ∈ wsX6_lostMany := by decide +kernel
  have lk80 := hts (.fieldLink RX6 80 "BeatDoubtsModel" "many" "I") (by decide +kernel)
  have B4 : ∀ (n : Nat) (σ : SS) (x1 : Int32) (x2 : Int32) (H : Heap) (locs : List Loc) (ls : Array Slot), fx3 (lb_X6_lostMany_4 K) n σ x1 x2 → PZ Z σ H → SZ Z s H locs → lv_has ls 3 [(0, .ref (zq Z 100)), (1, .int x1), (2, .int x2)] → W p l e (headSpec wsX6_lostMany (rm9 1 21)).room s m args below meth c H locs 0 0 (MQ below (qcI Z K s.heap.size) args s 0 0 (aZ Z s.heap.size)) (F0 m 4 ls []) := by
    intro n4
    induction n4 with
    | zero => intro σ x1 x2 H locs ls h; exact h.elim
    | succ n4 ih4 =>
      intro σ x1 x2 H locs ls h hP hS hl
      have h : lb_X6_lostMany_4 K (fx3 (lb_X6_lostMany_4 K) n4) σ x1 x2 := h
      unfold lb_X6_lostMany_4 at h
      refine lv_iload_n hx hb dX6_lostMany_4 rfl (lv_at hl 2 rfl) ?_
      refine lv_aload_n hx hb dX6_lostMany_5 rfl (lv_at hl 0 rfl) ?_
      refine fg_6_1 hZ hx hb hts in6 hown hE hP kd100 lk80 dX6_lostMany_6 ?_
      refine lv_icmp_ge (tgt := 34) hx hb dX6_lostMany_9 (by decide) (fun hc => ?_) (fun hc => ?_)
      · have h := h.1 hc
        refine lv_iload_n hx hb dX6_lostMany_34 rfl (lv_at hl 1 rfl) ?_
        exact zr_I hx hb hr hlocks hP hS h dX6_lostMany_35
      · have h := h.2 hc
        refine lv_iload_n hx hb dX6_lostMany_12 rfl (lv_at hl 1 rfl) ?_
        refine lv_aload_n hx hb dX6_lostMany_13 rfl (lv_at hl 0 rfl) ?_
        refine lv_iload_n hx hb dX6_lostMany_14 rfl (lv_at hl 2 rfl) ?_
        refine zc_VI (As := [.int x2]) (rest := [.int x1]) ⟨hx, hb, hml, hown, hts⟩ (cwV 1 hts gX6_lostMany_X6_isLost rfl rfl rfl hd_X6_isLost ⟨Nat.le_of_ble_eq_true rfl, Nat.le_of_ble_eq_true rfl⟩) (mt_X6_isLost l hZ σ _ x2 _ h) (rc_6 hZ hE hP kd100) hE hP hS rfl hl.1 rfl (Nat.le_of_ble_eq_true rfl) dX6_lostMany_15 ⟨Nat.zero_le _, Nat.zero_le _⟩ (fun r15 σ15 H locs h hP hS => ?_)
        refine lv_if_eq (tgt := 25) hx hb dX6_lostMany_18 (by decide) (fun hc => ?_) (fun hc => ?_)
        · have h := h.1 hc
          refine lv_iconst (v := 0) hx hb dX6_lostMany_25 (by decide) ?_
          refine lv_iadd hx hb dX6_lostMany_26 ?_
          refine lv_istore_n (lv' := [(1, .int (x1 + 0)), (0, .ref (zq Z 100)), (2, .int x2)]) hx hb dX6_lostMany_27 rfl hl (by decide) rfl (fun ls hl => ?_)
          refine lv_iinc (v := (x2 + 1)) (lv' := [(2, .int (x2 + 1)), (1, .int (x1 + 0)), (0, .ref (zq Z 100))]) hx hb dX6_lostMany_28 hl (k := 2) rfl rfl (by decide) rfl (fun ls hl => ?_)
          refine lv_goto (tgt := 4) hx hb dX6_lostMany_31 (by decide) ?_
          exact ih4 σ15 (x1 + 0) (x2 + 1) _ _ _ h hP hS (lv_sub hl [2, 1, 0] rfl)
        · have h := h.2 hc
          refine lv_iconst (v := 1) hx hb dX6_lostMany_21 (by decide) ?_
          refine lv_goto (tgt := 26) hx hb dX6_lostMany_22 (by decide) ?_
          refine lv_iadd hx hb dX6_lostMany_26 ?_
          refine lv_istore_n (lv' := [(1, .int (x1 + 1)), (0, .ref (zq Z 100)), (2, .int x2)]) hx hb dX6_lostMany_27 rfl hl (by decide) rfl (fun ls hl => ?_)
          refine lv_iinc (v := (x2 + 1)) (lv' := [(2, .int (x2 + 1)), (1, .int (x1 + 1)), (0, .ref (zq Z 100))]) hx hb dX6_lostMany_28 hl (k := 2) rfl rfl (by decide) rfl (fun ls hl => ?_)
          refine lv_goto (tgt := 4) hx hb dX6_lostMany_31 (by decide) ?_
          exact ih4 σ15 (x1 + 1) (x2 + 1) _ _ _ h hP hS (lv_sub hl [2, 1, 0] rfl)
  unfold wp_X6_lostMany at h
  refine lv_iconst (v := 0) hx hb dX6_lostMany_0 (by decide) ?_
  refine lv_istore_n (lv' := [(1, .int 0), (0, .ref (zq Z 100))]) hx hb dX6_lostMany_1 rfl hl (by decide) rfl (fun ls hl => ?_)
  refine lv_iconst (v := 0) hx hb dX6_lostMany_2 (by decide) ?_
  refine lv_istore_n (lv' := [(2, .int 0), (1, .int 0), (0, .ref (zq Z 100))]) hx hb dX6_lostMany_3 rfl hl (by decide) rfl (fun ls hl => ?_)
  obtain ⟨n, h⟩ := h
  exact B4 n σ 0 0 _ _ _ h hP hS (lv_sub hl [2, 1, 0] rfl)
theorem hd_X6_newsNow : yX6_newsNow.cls = RX6 ∧ yX6_newsNow.cls ≠ "java/lang/invoke/MethodHandle" ∧ yX6_newsNow.cls ≠ "java/lang/invoke/VarHandle" ∧ (parseMethodDescriptor yX6_newsNow.desc).map (fun d => d.parameters.length) = some 0 := by decide +kernel
set_option maxHeartbeats 4000000 in
set_option maxRecDepth 100000 in
theorem mt_X6_newsNow (l : Launch) {Z : ZW} (hZ : isM Z) (σ : SS) (sz : Nat) (K : SS → Int32 → Prop) (h : wp_X6_newsNow σ K) : mtZ l yX6_newsNow wsX6_newsNow (rm9 4 86) Z [.ref (zq Z 100)] σ sz (qcI Z K sz) := by
  refine Met.ofW (cc := cX6_newsNow) (maxL := 1) (ret := (some .int)) (by decide) rfl ?_
  intro p e s m args below meth c s₁ B hml hv
  obtain ⟨hargs, hsz, hP, hE1, hE2, hE3⟩ := hv
  subst hsz
  have hE : envZ Z s := ⟨hE1, hE2, hE3⟩
  have hx := B.exec
  have hb := B.bytes
  have hr := B.returns
  have hlocks := B.notSynchronized
  have hts := atoms_spec (ws := wsX6_newsNow) B.pre
  have hown : s.vm.findClass RX6 = some m.cls := findClass_of_methodNamed B.named
  have hS : SZ Z s s.heap [] := va_S.rf
  obtain ⟨ls, hef, hl⟩ := z_entry m hargs (n := 1) (Nat.le_of_ble_eq_true rfl)
  rw [hef]
  have hl : lv_has ls 1 [(0, .ref (zq Z 100))] := hl
  have in6 : ∀ w ∈ u_ws RX6 TX6 28, w ∈ wsX6_newsNow := by decide +kernel
  have lk107 := hts (.fieldLink RX6 107 "BeatDoubtsModel" "newsMany" "I") (by decide +kernel)
  unfold wp_X6_newsNow at h
  refine lv_aload_n hx hb dX6_newsNow_0 rfl (lv_at hl 0 rfl) ?_
  refine zc_VV (As := []) (rest := []) ⟨hx, hb, hml, hown, hts⟩ (cwV 0 hts gX6_newsNow_X6_findsNews rfl rfl rfl hd_X6_findsNews ⟨Nat.le_of_ble_eq_true rfl, Nat.le_of_ble_eq_true rfl⟩) (mt_X6_findsNews l hZ σ _  _ h) (rc_6 hZ hE hP kd100) hE hP hS rfl hl.1 rfl (Nat.le_of_ble_eq_true rfl) dX6_newsNow_1 ⟨Nat.zero_le _, Nat.zero_le _⟩ (fun σ1 H locs h hP hS => ?_)
  refine lv_aload_n hx hb dX6_newsNow_4 rfl (lv_at hl 0 rfl) ?_
  refine fg_6_7 hZ hx hb hts in6 hown hE hP kd100 lk107 dX6_newsNow_5 ?_
  exact zr_I hx hb hr hlocks hP hS h dX6_newsNow_8
