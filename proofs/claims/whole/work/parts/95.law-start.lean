/-! ===== the law, from its entry ===== -/
theorem ka_p {s : State} {args : Array Value} {ty : FieldType} (hno : ∀ C, ty = .object C → False) (h : (Cond.arrayClass ty).before args s = true) : ∃ cA, ArrOfT s cA ty ∧ va_RA s cA ty := by
  obtain ⟨cA, kA, comp, h1, h2, h3⟩ := Cond.arrayClass_spec h
  refine ⟨cA, fun n z => ⟨fun k h => (by cases h), kA, h2, comp, h3⟩, ?_⟩
  cases ty with
  | object C => exact (hno C rfl).elim
  | _ => exact h1
theorem ka_q {s : State} {C : String} (h : va_AO C s) : ∃ cA, ArrOfT s cA (.object C) ∧ va_RA s cA (.object C) := by
  obtain ⟨comp, cA, k, h1, h2, h3, h4, h5⟩ := Cond.arrayOver_spec h
  exact ⟨cA, fun n z => ⟨fun k h => (by cases h), k, h3, comp, h4⟩, k, comp, h3, h4, h1, h5⟩
theorem st_s {s : State} {b : Addr} {n : String} {f : Nat → Int32} {v0 v1 v2 v3 : Int32} (hf : f 0 = v0 ∧ f 1 = v1 ∧ f 2 = v2 ∧ f 3 = v3) (hl : (Cond.laysStatic "BeatDoubts" n "[I").before #[Value.ref b] s = true) (hi : (Cond.initialized "BeatDoubts").before #[Value.ref b] s = true) (ha : (Cond.arrayOf (.static "BeatDoubts" n "[I") .int).before #[Value.ref b] s = true) (hn : (Cond.eq (.length (.static "BeatDoubts" n "[I")) (.int 4)).before #[Value.ref b] s = true) (h0 : (Cond.eq (.elem (.static "BeatDoubts" n "[I") (.int 0)) (.int v0)).before #[Value.ref b] s = true) (h1 : (Cond.eq (.elem (.static "BeatDoubts" n "[I") (.int 1)) (.int v1)).before #[Value.ref b] s = true) (h2 : (Cond.eq (.elem (.static "BeatDoubts" n "[I") (.int 2)) (.int v2)).before #[Value.ref b] s = true) (h3 : (Cond.eq (.elem (.static "BeatDoubts" n "[I") (.int 3)) (.int v3)).before #[Value.ref b] s = true) : ∃ t : Nat, va_Z "BeatDoubts" n "[I" (.ref t) (A0 s) s s.heap ∧ va_T .int t 4 (fun j => .int (f j)) (A0 s) s s.heap := by
  obtain ⟨t, ht, hT⟩ := va_Tof (tm := .static "BeatDoubts" n "[I") (ty := .int) (N := 4) (f := fun j => .int (f j)) (A := A0 s) (by decide) ha (va_eqt hn) (fun j hj => by
    match j, hj with
    | 0, _ => rw [hf.1]; exact va_eqt h0
    | 1, _ => rw [hf.2.1]; exact va_eqt h1
    | 2, _ => rw [hf.2.2.1]; exact va_eqt h2
    | 3, _ => rw [hf.2.2.2]; exact va_eqt h3) (fun a ha => Nat.not_le.mpr ha)
  exact ⟨t, va_Zof hl hi ht (fun a ha => Nat.not_le.mpr ha), hT⟩
theorem okZ_of {Z : ZW} {σ : SS} {A : Nat → Prop} (h : va_D A (wZ Z σ)) : okZ Z ∧ ∀ i, i < zn Z → A (zq Z (zb Z + i)) := by
  have at' : ∀ i, i < zn Z → (wZ Z σ)[i]? = some (zq Z (zb Z + i), eZ Z σ (zb Z + i)) := by
    intro i hi
    have := wZ_at (Z := Z) (σ := σ) (p := zb Z + i) (by omega)
    rw [show zb Z + i - zb Z = i by omega] at this; exact this
  exact ⟨fun i j hi hj e => h.1 i j _ _ (at' i hi) (at' j hj) e, fun i hi => h.2 i _ (at' i hi)⟩
theorem zf_5 : ∀ j, j < 15 → defaultValue (tyX5 j) = vp_V [.null, .int 0, .int 0, .int 0, .int 0, .null, .int 0, .null, .int 0, .null, .int 0, .null, .int 0, .null, .null] j := by
  intro j hj
  match j, hj with
  | 0, _ => rfl
  | 1, _ => rfl
  | 2, _ => rfl
  | 3, _ => rfl
  | 4, _ => rfl
  | 5, _ => rfl
  | 6, _ => rfl
  | 7, _ => rfl
  | 8, _ => rfl
  | 9, _ => rfl
  | 10, _ => rfl
  | 11, _ => rfl
  | 12, _ => rfl
  | 13, _ => rfl
  | 14, _ => rfl
theorem zf_6 : ∀ j, j < 28 → defaultValue (tyX6 j) = vp_V [.null, .int 0, .int 0, .int 0, .int 0, .null, .null, .int 0, .null, .null, .null, .null, .int 0, .null, .null, .int 0, .int 0, .int 0, .int 0, .null, .null, .null, .null, .null, .null, .null, .null, .int 0] j := by
  intro j hj
  match j, hj with
  | 0, _ => rfl
  | 1, _ => rfl
  | 2, _ => rfl
  | 3, _ => rfl
  | 4, _ => rfl
  | 5, _ => rfl
  | 6, _ => rfl
  | 7, _ => rfl
  | 8, _ => rfl
  | 9, _ => rfl
  | 10, _ => rfl
  | 11, _ => rfl
  | 12, _ => rfl
  | 13, _ => rfl
  | 14, _ => rfl
  | 15, _ => rfl
  | 16, _ => rfl
  | 17, _ => rfl
  | 18, _ => rfl
  | 19, _ => rfl
  | 20, _ => rfl
  | 21, _ => rfl
  | 22, _ => rfl
  | 23, _ => rfl
  | 24, _ => rfl
  | 25, _ => rfl
  | 26, _ => rfl
  | 27, _ => rfl
  | j + 28, hj => exact absurd hj (by omega)
set_option maxHeartbeats 8000000 in
set_option maxRecDepth 100000 in
theorem whole_start {p : Program} {e : Env} {s : State} {m : MethodId} {below : List Frame} {meth : Method} {c : Code} (l : Launch) (hflags : l.flags = flags0) {b L : Nat} {xs : Nat → Int32} (hL : L ≤ 3072) (C0 : lw_At p s m meth c b L xs) : W p l e room_1 s m #[Value.ref b] below meth c s.heap [] 0 0 (lw_Z below #[Value.ref b] s) (entryFrame m ([Value.ref b] : List Value).toArray 4) := by
  obtain ⟨hx, hb, hr, hml, hown, htl, hX, hbl, hlocks, hgv⟩ := id C0
  have hb : c.code = cL_law := hb
  have hown : s.vm.findClass RL = some m.cls := hown
  have hts : ∀ w ∈ wsL_law, w.before #[Value.ref b] s = true := fun w h => htl w (wsL_law_in w h)
  have hgs := flat_of_before _ hgv
  have hA : ∀ q : Nat, s.heap.size ≤ q → A0 s q := fun _ h => h
  have hbA : ¬ A0 s b := Nat.not_le.mpr hbl
  obtain ⟨c0, iS0, hKn0⟩ := u_known (C := RX0) (T := TX0) (N := 10) (n := 10) htl inX0 (htl (.instantiable RX0 10) (by decide +kernel))
  obtain ⟨c1, iS1, hKn1⟩ := u_known (C := RX1) (T := TX1) (N := 8) (n := 8) htl inX1 (htl (.instantiable RX1 8) (by decide +kernel))
  obtain ⟨c2, iS2, hKn2⟩ := u_known (C := RX2) (T := TX2) (N := 2) (n := 2) htl inX2 (htl (.instantiable RX2 2) (by decide +kernel))
  obtain ⟨c3, iS3, hKn3⟩ := u_known (C := RX3) (T := TX3) (N := 6) (n := 6) htl inX3 (htl (.instantiable RX3 6) (by decide +kernel))
  obtain ⟨c4, iS4, hKn4⟩ := u_known (C := RX4) (T := TX4) (N := 5) (n := 5) htl inX4 (htl (.instantiable RX4 5) (by decide +kernel))
  obtain ⟨c5, iS5, hKn5⟩ := u_known (C := RX5) (T := TX5) (N := 15) (n := 15) htl inX5 (htl (.instantiable RX5 15) (by decide +kernel))
  obtain ⟨c6, iS6, hKn6⟩ := u_known (C := RX6) (T := TX6) (N := 28) (n := 28) htl inX6 (htl (.instantiable RX6 28) (by decide +kernel))
  obtain ⟨D, hKc⟩ : ∃ D : va_G, ∀ (k : Nat) (q : vw_C), vwCl[k]? = some q → u_Kn s q.1 q.2.1 q.2.2 (D.1 k) (D.2 k) := by
    refine ⟨(fun k => [c0, c1, c2, c3, c4, c5, c6].getD k c0, fun k => [iS0, iS1, iS2, iS3, iS4, iS5, iS6].getD k iS0), ?_⟩
    intro k q hq
    match k, hq with
    | 0, hq => cases hq; exact hKn0
    | 1, hq => cases hq; exact hKn1
    | 2, hq => cases hq; exact hKn2
    | 3, hq => cases hq; exact hKn3
    | 4, hq => cases hq; exact hKn4
    | 5, hq => cases hq; exact hKn5
    | 6, hq => cases hq; exact hKn6
    | k + 7, hq => simp [vwCl] at hq
  obtain ⟨a0, g0⟩ := ka_p (ty := .int) (fun _ h => by cases h) (htl (.arrayClass .int) (by decide +kernel))
  obtain ⟨a1, g1⟩ := ka_p (ty := .boolean) (fun _ h => by cases h) (htl (.arrayClass .boolean) (by decide +kernel))
  obtain ⟨a2, g2⟩ := ka_p (ty := .long) (fun _ h => by cases h) (htl (.arrayClass .long) (by decide +kernel))
  obtain ⟨a3, g3⟩ := ka_p (ty := .double) (fun _ h => by cases h) (htl (.arrayClass .double) (by decide +kernel))
  have hO4 : va_AO RX4 s := va_AO.of (htl (.arrayOver (.object RX4)) (by decide +kernel))
  have hO3 : va_AO RX3 s := va_AO.of (htl (.arrayOver (.object RX3)) (by decide +kernel))
  obtain ⟨a4, g4⟩ := ka_q hO4
  obtain ⟨a5, g5⟩ := ka_q hO3
  obtain ⟨cA, hK⟩ : ∃ cA : Nat → ClassId, va_K D vwCl (tyK cA) s := by
    refine ⟨fun k => [a0, a1, a2, a3, a4, a5].getD k a0, hKc, fun k q hq => ?_⟩
    match k, hq with
    | 0, hq => cases hq; exact g0
    | 1, hq => cases hq; exact g1
    | 2, hq => cases hq; exact g2
    | 3, hq => cases hq; exact g3
    | 4, hq => cases hq; exact g4
    | 5, hq => cases hq; exact g5
    | k + 6, hq => simp [tyK] at hq
  obtain ⟨tL, hsL⟩ := st_s (n := "LEAST_MEASURES") (f := lmA) (v0 := 0) (v1 := 1) (v2 := 1) (v3 := 0) ⟨rfl, rfl, rfl, rfl⟩ (htl (.laysStatic "BeatDoubts" "LEAST_MEASURES" "[I") (by decide +kernel)) (htl (.initialized "BeatDoubts") (by decide +kernel)) (hgs (.arrayOf (.static "BeatDoubts" "LEAST_MEASURES" "[I") .int) (by decide +kernel)) (hgs (.eq (.length (.static "BeatDoubts" "LEAST_MEASURES" "[I")) (.int 4)) (by decide +kernel)) (hgs (.eq (.elem (.static "BeatDoubts" "LEAST_MEASURES" "[I") (.int 0)) (.int 0)) (by decide +kernel)) (hgs (.eq (.elem (.static "BeatDoubts" "LEAST_MEASURES" "[I") (.int 1)) (.int 1)) (by decide +kernel)) (hgs (.eq (.elem (.static "BeatDoubts" "LEAST_MEASURES" "[I") (.int 2)) (.int 1)) (by decide +kernel)) (hgs (.eq (.elem (.static "BeatDoubts" "LEAST_MEASURES" "[I") (.int 3)) (.int 0)) (by decide +kernel))
  obtain ⟨tG, hsG⟩ := st_s (n := "GREATEST_MEASURES") (f := gmA) (v0 := 99) (v1 := 10) (v2 := 200) (v3 := 30) ⟨rfl, rfl, rfl, rfl⟩ (htl (.laysStatic "BeatDoubts" "GREATEST_MEASURES" "[I") (by decide +kernel)) (htl (.initialized "BeatDoubts") (by decide +kernel)) (hgs (.arrayOf (.static "BeatDoubts" "GREATEST_MEASURES" "[I") .int) (by decide +kernel)) (hgs (.eq (.length (.static "BeatDoubts" "GREATEST_MEASURES" "[I")) (.int 4)) (by decide +kernel)) (hgs (.eq (.elem (.static "BeatDoubts" "GREATEST_MEASURES" "[I") (.int 0)) (.int 99)) (by decide +kernel)) (hgs (.eq (.elem (.static "BeatDoubts" "GREATEST_MEASURES" "[I") (.int 1)) (.int 10)) (by decide +kernel)) (hgs (.eq (.elem (.static "BeatDoubts" "GREATEST_MEASURES" "[I") (.int 2)) (.int 200)) (by decide +kernel)) (hgs (.eq (.elem (.static "BeatDoubts" "GREATEST_MEASURES" "[I") (.int 3)) (.int 30)) (by decide +kernel))
  have hS : va_S (A0 s) s.heap s.heap [] := va_S.rf
  have hP : va_P D vwCl [] s.heap := fun k q h => by simp at h
  have hD : va_D (A0 s) [] := ⟨fun i j p q h => by simp at h, fun k q h => by simp at h⟩
  have hl := lv_entry ([.ref b]) (n := 4) (Nat.le_of_ble_eq_true rfl)
  rw [lg_entry_eq]
  generalize (lg_sl ([.ref b]) ++ List.replicate (4 - (lg_sl ([.ref b])).length) Slot.unset).toArray = ls at hl ⊢
  have hl : lv_has ls 4 [(0, .ref b)] := hl
  refine va_new (ci := 5) (fs := [.null, .int 0, .int 0, .int 0, .int 0, .null, .int 0, .null, .int 0, .null, .int 0, .null, .int 0, .null, .null]) (C := RX5) (T := TX5) (N := 15) hx hb hts inlX5 tyX5 tyX5_ok hown (hts (.classLink RL 7 RX5) (by decide +kernel)) (htl (.instantiable RX5 15) (by decide +kernel)) (htl (.initialized RX5) (by decide +kernel)) hK hP hD hS hA rfl zf_5 (Nat.le_of_ble_eq_true rfl) (Nat.le_of_ble_eq_true rfl) dL_law_0 (fun q0v H hP hD hS => ?_)
  have hP : va_P D vwCl [(q0v, .inr (5, [.null, .int 0, .int 0, .int 0, .int 0, .null, .int 0, .null, .int 0, .null, .int 0, .null, .int 0, .null, .null]))] H := hP
  have hD : va_D (A0 s) [(q0v, .inr (5, [.null, .int 0, .int 0, .int 0, .int 0, .null, .int 0, .null, .int 0, .null, .int 0, .null, .int 0, .null, .null]))] := hD
  refine W.widen (k := 1) (n := 15) (Nat.le_of_ble_eq_true rfl) (Nat.le_of_ble_eq_true rfl) ?_
  refine lv_dup hx hb dL_law_3 rfl ?_
  have hFc := va_free (wc := [(q0v, .inr (5, [.null, .int 0, .int 0, .int 0, .int 0, .null, .int 0, .null, .int 0, .null, .int 0, .null, .int 0, .null, .null]))]) hD hS hA [0] rfl
  refine va_callv (va_runI (As := []) (rest := [.ref q0v]) ⟨hx, hb, hml, hown, hts⟩ (mi_X5 l D cA q0v H.size) (cwI 0 hts gL_law_X5_init rfl rfl rfl (htl (.initialized RX5) (by decide +kernel)) (hts (.methodLink RL 9 yX5_init) (by decide +kernel)) (hts (.instanceMethod yX5_init) (by decide +kernel)) rfl (by decide +kernel) ⟨Nat.le_of_ble_eq_true rfl, Nat.le_of_ble_eq_true rfl⟩) ⟨fun a U g mk q => by obtain ⟨q0, q1, qP, qK, qD, qO, qR⟩ := q; exact ⟨q0, q1, qP, va_K.moved (u := U) (U := U.calling g mk a) (Vm.Alike.refl U.vm) qK, qD, va_AO.moved (Vm.Alike.refl U.vm) qO, va_AO.moved (Vm.Alike.refl U.vm) qR⟩, fun U hU hW => ⟨rfl, by rw [hU], by rw [hU]; exact hP, va_K.moved hW.alike hK, hD.weaken (fun _ _ _ _ => trivial), va_AO.moved hW.alike hO4, va_AO.moved hW.alike hO3⟩⟩ rfl rfl hl.1 rfl (lv_room (Nat.le_of_ble_eq_true rfl)) dL_law_4 ⟨Nat.le_of_ble_eq_true rfl, Nat.le_of_ble_eq_true rfl⟩) hS (fun q _ h => hFc q h) hFc (fun u t H1 locs ht hvm _ hB hz1 hk1 hS => ?_)
  obtain ⟨u0, u1, u2, u3, u4, u5, u6, u7, u8, u9, u10, u11, u12, u13, u14, u15, u16, u17, u18, u19, u20, u21, u22, u23, u24, u25, u26, u27, u28, u29, u30, u31, u32, u33, u34, u35, u36, u37, u38, u39, u40, u41, u42, u43, u44, u45, u46, u47, u48, u49, u50, u51, u52, u53, u54, u55, u56, u57, u58, u59, u60, u61, u62, u63, u64, u65, u66, u67, u68, u69, u70⟩ := u
  obtain ⟨hP1, hD1⟩ := hB
  rw [ht] at hP1
  obtain ⟨qC, hqC, hPC, hDC⟩ := conv_C (L := tL) (G := tG) hP1 hD1
  subst hqC
  refine W.widen (k := 72) (n := 1860) (Nat.le_of_ble_eq_true rfl) (Nat.le_of_ble_eq_true rfl) ?_
  have hDC : va_D (A0 s) (wZ (zC D cA qC tL tG) σC) := hDC.weaken (fun _ _ _ h => hFc _ h)
  generalize H1 = H at hPC hS ⊢
  refine lv_astore_n (lv' := [(1, .ref (qC 0)), (0, .ref b)]) hx hb dL_law_7 rfl hl (by decide) rfl (fun ls hl => ?_)
  have hP := hPC
  have hD := hDC
  refine va_new (ci := 6) (fs := [.null, .int 0, .int 0, .int 0, .int 0, .null, .null, .int 0, .null, .null, .null, .null, .int 0, .null, .null, .int 0, .int 0, .int 0, .int 0, .null, .null, .null, .null, .null, .null, .null, .null, .int 0]) (C := RX6) (T := TX6) (N := 28) hx hb hts inlX6 tyX6 tyX6_ok hown (hts (.classLink RL 10 RX6) (by decide +kernel)) (htl (.instantiable RX6 28) (by decide +kernel)) (htl (.initialized RX6) (by decide +kernel)) hK hP hD hS hA rfl zf_6 (Nat.le_of_ble_eq_true rfl) (Nat.le_of_ble_eq_true rfl) dL_law_8 (fun q1v H hP hD hS => ?_)
  refine W.widen (k := 73) (n := 1888) (Nat.le_of_ble_eq_true rfl) (Nat.le_of_ble_eq_true rfl) ?_
  refine lv_dup hx hb dL_law_11 rfl ?_
  have hl72 : (wZ (zC D cA qC tL tG) σC).length = 72 := wZ_len
  have hlast : (wZ (zC D cA qC tL tG) σC ++ [(q1v, .inr (6, [.null, .int 0, .int 0, .int 0, .int 0, .null, .null, .int 0, .null, .null, .null, .null, .int 0, .null, .null, .int 0, .int 0, .int 0, .int 0, .null, .null, .null, .null, .null, .null, .null, .null, .int 0]))])[72]? = some (q1v, .inr (6, [.null, .int 0, .int 0, .int 0, .int 0, .null, .null, .int 0, .null, .null, .null, .null, .int 0, .null, .null, .int 0, .int 0, .int 0, .int 0, .null, .null, .null, .null, .null, .null, .null, .null, .int 0])) := by rw [List.getElem?_append_right (by omega), hl72]; rfl
  have hPall := hP
  have hDall := hD
  have hPC : PZ (zC D cA qC tL tG) σC H := fun k q hk => hPall k q (by rw [List.getElem?_append_left (List.getElem?_eq_some_iff.mp hk).1]; exact hk)
  have hP : va_P D vwCl [(q1v, .inr (6, [.null, .int 0, .int 0, .int 0, .int 0, .null, .null, .int 0, .null, .null, .null, .null, .int 0, .null, .null, .int 0, .int 0, .int 0, .int 0, .null, .null, .null, .null, .null, .null, .null, .null, .int 0]))] H := fun k q hk => hPall (72 + k) q (by rw [List.getElem?_append_right (by omega), hl72, show 72 + k - 72 = k by omega]; exact hk)
  have hD : va_D (A0 s) [(q1v, .inr (6, [.null, .int 0, .int 0, .int 0, .int 0, .null, .null, .int 0, .null, .null, .null, .null, .int 0, .null, .null, .int 0, .int 0, .int 0, .int 0, .null, .null, .null, .null, .null, .null, .null, .null, .int 0]))] := ⟨fun i j p q hi hj e => by have h1 := (List.getElem?_eq_some_iff.mp hi).1; have h2 := (List.getElem?_eq_some_iff.mp hj).1; simp at h1 h2; omega, fun k q hk => hDall.2 (72 + k) q (by rw [List.getElem?_append_right (by omega), hl72, show 72 + k - 72 = k by omega]; exact hk)⟩
  have hsep : ∀ i, i < 72 → qC i ≠ q1v := by
    intro i hi e
    have h1 : (wZ (zC D cA qC tL tG) σC ++ [(q1v, .inr (6, [.null, .int 0, .int 0, .int 0, .int 0, .null, .null, .int 0, .null, .null, .null, .null, .int 0, .null, .null, .int 0, .int 0, .int 0, .int 0, .null, .null, .null, .null, .null, .null, .null, .null, .int 0]))])[i]? = some (qC (0 + i), eZ (zC D cA qC tL tG) σC (0 + i)) := by
      rw [List.getElem?_append_left (by omega)]
      exact wZ_at (Z := zC D cA qC tL tG) (p := i) ⟨Nat.zero_le i, by show i < 0 + 72; omega⟩ |>.trans (by rw [Nat.zero_add]; rfl)
    have := hDall.1 i 72 _ _ h1 hlast (by show qC (0 + i) = q1v; rw [Nat.zero_add]; exact e)
    omega
  have hFc := va_free (wc := [(q1v, .inr (6, [.null, .int 0, .int 0, .int 0, .int 0, .null, .null, .int 0, .null, .null, .null, .null, .int 0, .null, .null, .int 0, .int 0, .int 0, .int 0, .null, .null, .null, .null, .null, .null, .null, .null, .int 0]))]) hD hS hA [0] rfl
  refine va_callv (va_runI (As := []) (rest := [.ref q1v]) ⟨hx, hb, hml, hown, hts⟩ (mi_X6 l D cA q1v H.size) (cwI 0 hts gL_law_X6_init rfl rfl rfl (htl (.initialized RX6) (by decide +kernel)) (hts (.methodLink RL 12 yX6_init) (by decide +kernel)) (hts (.instanceMethod yX6_init) (by decide +kernel)) rfl (by decide +kernel) ⟨Nat.le_of_ble_eq_true rfl, Nat.le_of_ble_eq_true rfl⟩) ⟨fun a U g mk q => by obtain ⟨q0, q1, qP, qK, qD⟩ := q; exact ⟨q0, q1, qP, va_K.moved (u := U) (U := U.calling g mk a) (Vm.Alike.refl U.vm) qK, qD⟩, fun U hU hW => ⟨rfl, by rw [hU], by rw [hU]; exact hP, va_K.moved hW.alike hK, hD.weaken (fun _ _ _ _ => trivial)⟩⟩ rfl rfl hl.1 rfl (lv_room (Nat.le_of_ble_eq_true rfl)) dL_law_12 ⟨Nat.le_of_ble_eq_true rfl, Nat.le_of_ble_eq_true rfl⟩) hS (fun q _ h => hFc q h) hFc (fun u t H1 locs ht hvm _ hB hz1 hk1 hS => ?_)
  obtain ⟨v0, v1, v2, v3, v4, v5, v6, v7, v8, v9, v10, v11, v12, v13, v14, v15, v16⟩ := u
  obtain ⟨hP1, hD1⟩ := hB
  rw [ht] at hP1
  obtain ⟨qM, hqM, hPM, hDM⟩ := conv_M (L := tL) (G := tG) hP1 hD1
  have hsz := hz1
  have hPC1 : PZ (zC D cA qC tL tG) σC H1 := hPC.kept (fun k x hx => by
    have hlt := (hPC k x hx).lt
    obtain ⟨h1, rfl⟩ := wZ_get hx
    refine hk1 _ hlt (fun h => ?_)
    rcases h with ⟨k2, e2, h⟩ | h
    · have h3 := (List.getElem?_eq_some_iff.mp h).1
      have h4 : k2 = 0 := by simp at h3; omega
      subst h4
      cases h
      exact hsep k h1 (by show qC k = qC (0 + k); rw [Nat.zero_add])
    · exact absurd hlt (Nat.not_lt.mpr h))
  have hapart : ∀ i j, i < 72 → j < 18 → qC i ≠ qM (100 + j) := by
    intro i j hi hj e
    have h1 := (okZ_of (Z := zM D cA qM tL tG) hDM).2 j hj
    have hlt : qC i < H.size := by
      have h9 := hPC i (qC (0 + i), eZ (zC D cA qC tL tG) σC (0 + i)) (wZ_at (Z := zC D cA qC tL tG) (p := i) ⟨Nat.zero_le i, by show i < 0 + 72; omega⟩ |>.trans (by rw [Nat.zero_add]; rfl))
      have := h9.lt
      rw [Nat.zero_add] at this; exact this
    rcases h1 with ⟨k2, e2, h⟩ | h
    · have h3 := (List.getElem?_eq_some_iff.mp h).1
      have h4 : k2 = 0 := by simp at h3; omega
      subst h4
      have h5 := Option.some.inj h
      have h6 : q1v = qM (100 + j) := congrArg Prod.fst h5
      exact hsep i hi (e.trans h6.symm)
    · have h : H.size ≤ qM (100 + j) := h
      rw [← e] at h; omega
  refine W.widen (k := 90) (n := 2716) (Nat.le_of_ble_eq_true rfl) (Nat.le_of_ble_eq_true rfl) ?_
  have oC := okZ_of (Z := zC D cA qC tL tG) hDC
  have oM := okZ_of (Z := zM D cA qM tL tG) hDM
  subst hqM
  refine lv_astore_n (lv' := [(2, .ref (qM 100)), (1, .ref (qC 0)), (0, .ref b)]) hx hb dL_law_15 rfl hl (by decide) rfl (fun ls hl => ?_)
  refine lv_iconst (v := nI 0) hx hb dL_law_16 (by decide) ?_
  refine lv_istore_n (lv' := lvL b 0 (zC D cA qC tL tG) (zM D cA qM tL tG)) hx hb dL_law_17 rfl hl (by decide) rfl (fun ls hl => ?_)
  refine law_loop (ZC := zC D cA qC tL tG) (ZM := zM D cA qM tL tG) ⟨C0, hts, ⟨⟨rfl, rfl⟩, rfl, rfl⟩, ⟨⟨⟨hK, oC.1⟩, ⟨hsL, hsG⟩, oC.2⟩, ⟨hK, oM.1⟩, ⟨hsL, hsG⟩, fun i hi => hFc _ (oM.2 i hi)⟩, fun i j hi hj e => ?_, fun i j hi hj e => ?_⟩ hL (Nat.le_of_ble_eq_true rfl) (Nat.le_of_ble_eq_true rfl) (Nat.le_of_ble_eq_true rfl) (Nat.le_of_ble_eq_true rfl) (L + 12) 0 (by omega) (by omega) σC τM aB H1 locs ls AB_B CI_B MI_B hPC1 hPM hS hl
  · exact hapart i j hi hj (by have e : qC (0 + i) = qM (100 + j) := e; rw [Nat.zero_add] at e; exact e)
  · exact hapart j i hj hi (by have e : qM (100 + i) = qC (0 + j) := e; rw [Nat.zero_add] at e; exact e.symm)
