/-! ===== the law: calls, with two systems in the heap ===== -/
abbrev A0 (s : State) : Nat → Prop := fun q => s.heap.size ≤ q
/-- what holds of a system all along -/
def EZ (Z : ZW) (s : State) : Prop := (va_K (zD Z) vwCl (tyZ Z) s ∧ okZ Z) ∧ stZ Z (A0 s) s s.heap ∧ ∀ i, i < zn Z → s.heap.size ≤ zq Z (zb Z + i)
def apZ (Z Z2 : ZW) : Prop := ∀ i j, i < zn Z → j < zn Z2 → zq Z (zb Z + i) ≠ zq Z2 (zb Z2 + j)
theorem EZ_sub {Z : ZW} {s : State} {n : Nat} (h : EZ Z s) (hn : s.heap.size ≤ n) : ∀ q, aZ Z n q → A0 s q := by
  intro q hq
  rcases hq with ⟨i, hi, rfl⟩ | hq
  · exact h.2.2 i hi
  · exact Nat.le_trans hn hq
theorem PZ_keep {Z Z2 : ZW} {τ : SS} {H H1 : Heap} (hP : PZ Z2 τ H) (hd : apZ Z Z2) (hk : ∀ q : Nat, q < H.size → ¬ aZ Z H.size q → H1[q]? = H[q]?) : PZ Z2 τ H1 := by
  refine hP.kept (fun k x hx => ?_)
  have hlt := (hP k x hx).lt
  obtain ⟨h1, rfl⟩ := wZ_get hx
  refine hk _ hlt (fun h => ?_)
  rcases h with ⟨i, hi, e⟩ | h
  · exact hd i k hi h1 e.symm
  · exact absurd hlt (Nat.not_lt.mpr h)
section LR
variable {p : Program} {l : Launch} {e : Env} {R : Room} {s : State} {m : MethodId} {args : Array Value} {below : List Frame} {meth : Method} {c : Code} {H : Heap} {locs : List Loc} {cells slots : Nat} {Q : State → Prop} {cc : ByteArray} {pc : Nat} {ls : Array Slot} {rest : List Value} {Ts : List Cond} {own : String} {index : Nat} {Z Z2 : ZW} {σ τ : SS}
theorem EZ_pre {av : List Value} (hE : EZ Z s) (hP : PZ Z σ H) (hS : va_S (A0 s) s.heap H locs) : ∀ U : State, U.heap = H → s.WarmedH U.vm → va_Pc av (preZ Z σ H.size) av.toArray U := by
  intro U hU hW
  refine ⟨rfl, by rw [hU], by rw [hU]; exact hP, va_K.moved hW.alike hE.1.1, hE.1.2, ?_⟩
  rw [hU]
  exact stZ_moved hE.2.1 hW.alike hS.2.1 (EZ_sub hE hS.1)
theorem lc_I {y : MethodName} {bytes : ByteArray} {maxL nL n : Nat} {ret : Option FieldType} {ws : List Cond} {rm : Room} {C : String} {b : Addr} {As : List Value} {K : SS → Int32 → Prop} {st0 : List Value} (S : CallFix p m c cc nL s args Ts own) (cw : CallW R s args own C index y bytes maxL ret ws rm 0 0 n) (hM : mtZ l y ws rm Z (.ref b :: As) σ H.size (qcI Z K H.size)) (hrc : ∃ cellB : Cell, H[b]? = some cellB ∧ cellB.vm.isStatics = false ∧ s.vm.findClass C = some cellB.cls) (hE : EZ Z s) (hd : apZ Z Z2) (hP : PZ Z σ H) (hP2 : PZ Z2 τ H) (hS : va_S (A0 s) s.heap H locs) (hn : As.length = n) (hsize : ls.size = nL) (hst : st0 = As.reverse ++ .ref b :: rest) (hrest : (rest.map fun v => v.category).sum ≤ 8) (hdg : decode cc pc = .ok (.invokevirtual index, 3)) (hf : cells ≤ R.cells ∧ slots ≤ R.slots)
    (kk : ∀ (r : Int32) (σ' : SS) (H1 : Heap) (locs1 : List Loc), K σ' r → PZ Z σ' H1 → PZ Z2 τ H1 → va_S (A0 s) s.heap H1 locs1 → W p l e R s m args below meth c H1 locs1 cells slots Q (F0 m (pc + 3) ls (.int r :: rest))) : W p l e R s m args below meth c H locs cells slots Q (F0 m pc ls st0) :=
  va_calli (va_runV S hM cw ⟨preZ_blind, hrc, EZ_pre hE hP hS⟩ rfl hn hsize hst (lv_room hrest) hdg hf) hS (fun q _ h => EZ_sub hE hS.1 q h) (fun q h => EZ_sub hE hS.1 q h) (fun r σ' t H1 locs1 ht _ hw hB _ hk1 hS1 => kk r σ' H1 locs1 hw (by rw [← ht]; exact hB) (PZ_keep hP2 hd hk1) hS1)
theorem lc_L {y : MethodName} {bytes : ByteArray} {maxL nL n : Nat} {ret : Option FieldType} {ws : List Cond} {rm : Room} {C : String} {b : Addr} {As : List Value} {K : SS → Int64 → Prop} {st0 : List Value} (S : CallFix p m c cc nL s args Ts own) (cw : CallW R s args own C index y bytes maxL ret ws rm 0 0 n) (hM : mtZ l y ws rm Z (.ref b :: As) σ H.size (qcL Z K H.size)) (hrc : ∃ cellB : Cell, H[b]? = some cellB ∧ cellB.vm.isStatics = false ∧ s.vm.findClass C = some cellB.cls) (hE : EZ Z s) (hd : apZ Z Z2) (hP : PZ Z σ H) (hP2 : PZ Z2 τ H) (hS : va_S (A0 s) s.heap H locs) (hn : As.length = n) (hsize : ls.size = nL) (hst : st0 = As.reverse ++ .ref b :: rest) (hrest : (rest.map fun v => v.category).sum ≤ 8) (hdg : decode cc pc = .ok (.invokevirtual index, 3)) (hf : cells ≤ R.cells ∧ slots ≤ R.slots)
    (kk : ∀ (r : Int64) (σ' : SS) (H1 : Heap) (locs1 : List Loc), K σ' r → PZ Z σ' H1 → PZ Z2 τ H1 → va_S (A0 s) s.heap H1 locs1 → W p l e R s m args below meth c H1 locs1 cells slots Q (F0 m (pc + 3) ls (.long r :: rest))) : W p l e R s m args below meth c H locs cells slots Q (F0 m pc ls st0) :=
  va_calll (va_runV S hM cw ⟨preZ_blind, hrc, EZ_pre hE hP hS⟩ rfl hn hsize hst (lv_room hrest) hdg hf) hS (fun q _ h => EZ_sub hE hS.1 q h) (fun q h => EZ_sub hE hS.1 q h) (fun r σ' t H1 locs1 ht _ hw hB _ hk1 hS1 => kk r σ' H1 locs1 hw (by rw [← ht]; exact hB) (PZ_keep hP2 hd hk1) hS1)
theorem lrc_5 (hZ : isC Z) (hE : EZ Z s) (hP : PZ Z σ H) : ∃ cell : Cell, H[zq Z 0]? = some cell ∧ cell.vm.isStatics = false ∧ s.vm.findClass RX5 = some cell.cls := va_recv (q := (RX5, TX5, 15)) hE.1.1 hP (ci := 5) rfl ((wZ_at (rgC hZ kd0 (by decide))).trans (by rw [eZ_5 kd0]))
theorem lrc_6 (hZ : isM Z) (hE : EZ Z s) (hP : PZ Z σ H) : ∃ cell : Cell, H[zq Z 100]? = some cell ∧ cell.vm.isStatics = false ∧ s.vm.findClass RX6 = some cell.cls := va_recv (q := (RX6, TX6, 28)) hE.1.1 hP (ci := 6) rfl ((wZ_at (rgM hZ kd100 (by decide))).trans (by rw [eZ_6 kd100]))
end LR
/-- all that stands still while the law runs -/
def LE (p : Program) (s : State) (m : MethodId) (meth : Method) (c : Code) (b L : Nat) (xs : Nat → Int32) (ZC ZM : ZW) : Prop := lw_At p s m meth c b L xs ∧ (∀ w ∈ wsL_law, w.before #[Value.ref b] s = true) ∧ (isC ZC ∧ isM ZM) ∧ (EZ ZC s ∧ EZ ZM s) ∧ apZ ZC ZM ∧ apZ ZM ZC
theorem nI_p {i k : Nat} : nI i + nI k = nI (i + k) := by rw [iz_nI, iz_nI, iz_nI, iz_add]; rfl
theorem in_p {i k L : Nat} (h : i + 6 ≤ L) (hL : L ≤ 3072) (hk : k < 6) : vp_in (nI (i + k)) L := vp_in_nI (by omega) (by omega)
abbrev lvL (b i : Nat) (ZC ZM : ZW) : List (Nat × Value) := [(3, .int (nI i)), (2, .ref (zq ZM 100)), (1, .ref (zq ZC 0)), (0, .ref b)]
set_option maxHeartbeats 4000000 in
set_option maxRecDepth 100000 in
theorem law_c0 {p : Program} {l : Launch} {e : Env} {s : State} {m : MethodId} {below : List Frame} {meth : Method} {c : Code} {b L : Nat} {xs : Nat → Int32} {ZC ZM : ZW} (hE : LE p s m meth c b L xs ZC ZM) {i : Nat} (hi : i + 6 ≤ L) (hL : L ≤ 3072) {Q : State → Prop} {cells slots : Nat} (hcl : cells ≤ room_1.cells) (hsl : slots ≤ room_1.slots) {σ τ : SS} {a : AT} {H : Heap} {locs : List Loc} {ls : Array Slot} (hA : AB a) (hC : CI σ a) (hM : MI τ a) (hP : PZ ZC σ H) (hP2 : PZ ZM τ H) (hS : va_S (A0 s) s.heap H locs) (hl : lv_has ls 4 (lvL b i ZC ZM)) (hk : ∀ (σ τ : SS) (a : AT) (H : Heap) (locs : List Loc), AB a → CI σ a → MI τ a → PZ ZC σ H → PZ ZM τ H → va_S (A0 s) s.heap H locs → W p l e room_1 s m #[Value.ref b] below meth c H locs cells slots Q (F0 m 1183 ls [])) : W p l e room_1 s m #[Value.ref b] below meth c H locs cells slots Q (F0 m 180 ls []) := by
  obtain ⟨hx, hb, hr, hml, hown, hts0, hX, hbl, hlocks, hgv⟩ := hE.1
  have hts := hE.2.1
  have hown : s.vm.findClass RL = some m.cls := hown
  have hb : c.code = cL_law := hb
  have hbA : ¬ A0 s b := Nat.not_le.mpr hbl
  refine lv_aload_n hx hb dL_law_180 rfl (lv_at hl 2 rfl) ?_
  refine lv_aload_n hx hb dL_law_181 rfl (lv_at hl 3 rfl) ?_
  refine lv_iload_n hx hb dL_law_182 rfl (lv_at hl 0 rfl) ?_
  refine lv_iconst (v := nI 1) hx hb dL_law_183 (by decide) ?_
  refine lv_iadd hx hb dL_law_184 ?_
  rw [nI_p]
  refine va_sld hx hb hX hbl hbA hS (in_p hi hL (k := 1) (by decide)) dL_law_185 ?_
  obtain ⟨rr, a2, hA2, hwc, hwm⟩ := p_beat hA hC hM (xs (nI (i + 1)).toNatClampNeg)
  refine lc_I (Z := ZC) (Z2 := ZM) (As := [.int (xs (nI (i + 1)).toNatClampNeg)]) (rest := []) ⟨hx, hb, hml, hown, hts⟩ (cwV 1 hts gL_law_X5_beat rfl rfl rfl hd_X5_beat ⟨Nat.le_of_ble_eq_true rfl, Nat.le_of_ble_eq_true rfl⟩) (mt_X5_beat l hE.2.2.1.1 σ _ (xs (nI (i + 1)).toNatClampNeg) _ hwc) (lrc_5 hE.2.2.1.1 hE.2.2.2.1.1 hP) hE.2.2.2.1.1 hE.2.2.2.2.1 hP hP2 hS rfl hl.1 rfl (Nat.le_of_ble_eq_true rfl) dL_law_186 ⟨hcl, hsl⟩ (fun r1 σ2 H locs hr1 hP hP2 hS => ?_)
  refine lv_aload_n hx hb dL_law_189 rfl (lv_at hl 1 rfl) ?_
  refine lv_aload_n hx hb dL_law_190 rfl (lv_at hl 3 rfl) ?_
  refine lv_iload_n hx hb dL_law_191 rfl (lv_at hl 0 rfl) ?_
  refine lv_iconst (v := nI 1) hx hb dL_law_192 (by decide) ?_
  refine lv_iadd hx hb dL_law_193 ?_
  rw [nI_p]
  refine va_sld hx hb hX hbl hbA hS (in_p hi hL (k := 1) (by decide)) dL_law_194 ?_
  refine lc_I (Z := ZM) (Z2 := ZC) (As := [.int (xs (nI (i + 1)).toNatClampNeg)]) (rest := [.int r1]) ⟨hx, hb, hml, hown, hts⟩ (cwV 1 hts gL_law_X6_beat rfl rfl rfl hd_X6_beat ⟨Nat.le_of_ble_eq_true rfl, Nat.le_of_ble_eq_true rfl⟩) (mt_X6_beat l hE.2.2.1.2 τ _ (xs (nI (i + 1)).toNatClampNeg) _ hwm) (lrc_6 hE.2.2.1.2 hE.2.2.2.1.2 hP2) hE.2.2.2.1.2 hE.2.2.2.2.2 hP2 hP hS rfl hl.1 rfl (Nat.le_of_ble_eq_true rfl) dL_law_195 ⟨hcl, hsl⟩ (fun r2 τ2 H locs hr2 hP2 hP hS => ?_)
  refine lv_icmp_eq (tgt := 1183) hx hb dL_law_198 (by decide) (fun _ => hk _ _ _ _ _ hA2 hr1.1 hr2.1 hP hP2 hS) (fun h9 => absurd (hr1.2.trans hr2.2.symm) h9)
set_option maxHeartbeats 4000000 in
set_option maxRecDepth 100000 in
theorem law_c1 {p : Program} {l : Launch} {e : Env} {s : State} {m : MethodId} {below : List Frame} {meth : Method} {c : Code} {b L : Nat} {xs : Nat → Int32} {ZC ZM : ZW} (hE : LE p s m meth c b L xs ZC ZM) {i : Nat} (hi : i + 6 ≤ L) (hL : L ≤ 3072) {Q : State → Prop} {cells slots : Nat} (hcl : cells ≤ room_1.cells) (hsl : slots ≤ room_1.slots) {σ τ : SS} {a : AT} {H : Heap} {locs : List Loc} {ls : Array Slot} (hA : AB a) (hC : CI σ a) (hM : MI τ a) (hP : PZ ZC σ H) (hP2 : PZ ZM τ H) (hS : va_S (A0 s) s.heap H locs) (hl : lv_has ls 4 (lvL b i ZC ZM)) (hk : ∀ (σ τ : SS) (a : AT) (H : Heap) (locs : List Loc), AB a → CI σ a → MI τ a → PZ ZC σ H → PZ ZM τ H → va_S (A0 s) s.heap H locs → W p l e room_1 s m #[Value.ref b] below meth c H locs cells slots Q (F0 m 1183 ls [])) : W p l e room_1 s m #[Value.ref b] below meth c H locs cells slots Q (F0 m 203 ls []) := by
  obtain ⟨hx, hb, hr, hml, hown, hts0, hX, hbl, hlocks, hgv⟩ := hE.1
  have hts := hE.2.1
  have hown : s.vm.findClass RL = some m.cls := hown
  have hb : c.code = cL_law := hb
  have hbA : ¬ A0 s b := Nat.not_le.mpr hbl
  refine lv_aload_n hx hb dL_law_203 rfl (lv_at hl 2 rfl) ?_
  refine lv_aload_n hx hb dL_law_204 rfl (lv_at hl 3 rfl) ?_
  refine lv_iload_n hx hb dL_law_205 rfl (lv_at hl 0 rfl) ?_
  refine lv_iconst (v := nI 1) hx hb dL_law_206 (by decide) ?_
  refine lv_iadd hx hb dL_law_207 ?_
  rw [nI_p]
  refine va_sld hx hb hX hbl hbA hS (in_p hi hL (k := 1) (by decide)) dL_law_208 ?_
  refine lv_aload_n hx hb dL_law_209 rfl (lv_at hl 3 rfl) ?_
  refine lv_iload_n hx hb dL_law_210 rfl (lv_at hl 0 rfl) ?_
  refine lv_iconst (v := nI 2) hx hb dL_law_211 (by decide) ?_
  refine lv_iadd hx hb dL_law_212 ?_
  rw [nI_p]
  refine va_sld hx hb hX hbl hbA hS (in_p hi hL (k := 2) (by decide)) dL_law_213 ?_
  refine lv_aload_n hx hb dL_law_214 rfl (lv_at hl 3 rfl) ?_
  refine lv_iload_n hx hb dL_law_215 rfl (lv_at hl 0 rfl) ?_
  refine lv_iconst (v := nI 3) hx hb dL_law_216 (by decide) ?_
  refine lv_iadd hx hb dL_law_217 ?_
  rw [nI_p]
  refine va_sld hx hb hX hbl hbA hS (in_p hi hL (k := 3) (by decide)) dL_law_218 ?_
  obtain ⟨rr, a2, hA2, hwc, hwm⟩ := p_beats hA hC hM (xs (nI (i + 1)).toNatClampNeg) (xs (nI (i + 2)).toNatClampNeg) (xs (nI (i + 3)).toNatClampNeg)
  refine lc_I (Z := ZC) (Z2 := ZM) (As := [.int (xs (nI (i + 1)).toNatClampNeg), .int (xs (nI (i + 2)).toNatClampNeg), .int (xs (nI (i + 3)).toNatClampNeg)]) (rest := []) ⟨hx, hb, hml, hown, hts⟩ (cwV 3 hts gL_law_X5_beats rfl rfl rfl hd_X5_beats ⟨Nat.le_of_ble_eq_true rfl, Nat.le_of_ble_eq_true rfl⟩) (mt_X5_beats l hE.2.2.1.1 σ _ (xs (nI (i + 1)).toNatClampNeg) (xs (nI (i + 2)).toNatClampNeg) (xs (nI (i + 3)).toNatClampNeg) _ hwc) (lrc_5 hE.2.2.1.1 hE.2.2.2.1.1 hP) hE.2.2.2.1.1 hE.2.2.2.2.1 hP hP2 hS rfl hl.1 rfl (Nat.le_of_ble_eq_true rfl) dL_law_219 ⟨hcl, hsl⟩ (fun r1 σ2 H locs hr1 hP hP2 hS => ?_)
  refine lv_aload_n hx hb dL_law_222 rfl (lv_at hl 1 rfl) ?_
  refine lv_aload_n hx hb dL_law_223 rfl (lv_at hl 3 rfl) ?_
  refine lv_iload_n hx hb dL_law_224 rfl (lv_at hl 0 rfl) ?_
  refine lv_iconst (v := nI 1) hx hb dL_law_225 (by decide) ?_
  refine lv_iadd hx hb dL_law_226 ?_
  rw [nI_p]
  refine va_sld hx hb hX hbl hbA hS (in_p hi hL (k := 1) (by decide)) dL_law_227 ?_
  refine lv_aload_n hx hb dL_law_228 rfl (lv_at hl 3 rfl) ?_
  refine lv_iload_n hx hb dL_law_229 rfl (lv_at hl 0 rfl) ?_
  refine lv_iconst (v := nI 2) hx hb dL_law_230 (by decide) ?_
  refine lv_iadd hx hb dL_law_231 ?_
  rw [nI_p]
  refine va_sld hx hb hX hbl hbA hS (in_p hi hL (k := 2) (by decide)) dL_law_232 ?_
  refine lv_aload_n hx hb dL_law_233 rfl (lv_at hl 3 rfl) ?_
  refine lv_iload_n hx hb dL_law_234 rfl (lv_at hl 0 rfl) ?_
  refine lv_iconst (v := nI 3) hx hb dL_law_235 (by decide) ?_
  refine lv_iadd hx hb dL_law_236 ?_
  rw [nI_p]
  refine va_sld hx hb hX hbl hbA hS (in_p hi hL (k := 3) (by decide)) dL_law_237 ?_
  refine lc_I (Z := ZM) (Z2 := ZC) (As := [.int (xs (nI (i + 1)).toNatClampNeg), .int (xs (nI (i + 2)).toNatClampNeg), .int (xs (nI (i + 3)).toNatClampNeg)]) (rest := [.int r1]) ⟨hx, hb, hml, hown, hts⟩ (cwV 3 hts gL_law_X6_beats rfl rfl rfl hd_X6_beats ⟨Nat.le_of_ble_eq_true rfl, Nat.le_of_ble_eq_true rfl⟩) (mt_X6_beats l hE.2.2.1.2 τ _ (xs (nI (i + 1)).toNatClampNeg) (xs (nI (i + 2)).toNatClampNeg) (xs (nI (i + 3)).toNatClampNeg) _ hwm) (lrc_6 hE.2.2.1.2 hE.2.2.2.1.2 hP2) hE.2.2.2.1.2 hE.2.2.2.2.2 hP2 hP hS rfl hl.1 rfl (Nat.le_of_ble_eq_true rfl) dL_law_238 ⟨hcl, hsl⟩ (fun r2 τ2 H locs hr2 hP2 hP hS => ?_)
  refine lv_icmp_eq (tgt := 1183) hx hb dL_law_241 (by decide) (fun _ => hk _ _ _ _ _ hA2 hr1.1 hr2.1 hP hP2 hS) (fun h9 => absurd (hr1.2.trans hr2.2.symm) h9)
set_option maxHeartbeats 4000000 in
set_option maxRecDepth 100000 in
theorem law_c2 {p : Program} {l : Launch} {e : Env} {s : State} {m : MethodId} {below : List Frame} {meth : Method} {c : Code} {b L : Nat} {xs : Nat → Int32} {ZC ZM : ZW} (hE : LE p s m meth c b L xs ZC ZM) {i : Nat} (hi : i + 6 ≤ L) (hL : L ≤ 3072) {Q : State → Prop} {cells slots : Nat} (hcl : cells ≤ room_1.cells) (hsl : slots ≤ room_1.slots) {σ τ : SS} {a : AT} {H : Heap} {locs : List Loc} {ls : Array Slot} (hA : AB a) (hC : CI σ a) (hM : MI τ a) (hP : PZ ZC σ H) (hP2 : PZ ZM τ H) (hS : va_S (A0 s) s.heap H locs) (hl : lv_has ls 4 (lvL b i ZC ZM)) (hk : ∀ (σ τ : SS) (a : AT) (H : Heap) (locs : List Loc), AB a → CI σ a → MI τ a → PZ ZC σ H → PZ ZM τ H → va_S (A0 s) s.heap H locs → W p l e room_1 s m #[Value.ref b] below meth c H locs cells slots Q (F0 m 1183 ls [])) : W p l e room_1 s m #[Value.ref b] below meth c H locs cells slots Q (F0 m 246 ls []) := by
  obtain ⟨hx, hb, hr, hml, hown, hts0, hX, hbl, hlocks, hgv⟩ := hE.1
  have hts := hE.2.1
  have hown : s.vm.findClass RL = some m.cls := hown
  have hb : c.code = cL_law := hb
  have hbA : ¬ A0 s b := Nat.not_le.mpr hbl
  refine lv_aload_n hx hb dL_law_246 rfl (lv_at hl 2 rfl) ?_
  refine lv_aload_n hx hb dL_law_247 rfl (lv_at hl 3 rfl) ?_
  refine lv_iload_n hx hb dL_law_248 rfl (lv_at hl 0 rfl) ?_
  refine lv_iconst (v := nI 1) hx hb dL_law_249 (by decide) ?_
  refine lv_iadd hx hb dL_law_250 ?_
  rw [nI_p]
  refine va_sld hx hb hX hbl hbA hS (in_p hi hL (k := 1) (by decide)) dL_law_251 ?_
  refine lv_aload_n hx hb dL_law_252 rfl (lv_at hl 3 rfl) ?_
  refine lv_iload_n hx hb dL_law_253 rfl (lv_at hl 0 rfl) ?_
  refine lv_iconst (v := nI 2) hx hb dL_law_254 (by decide) ?_
  refine lv_iadd hx hb dL_law_255 ?_
  rw [nI_p]
  refine va_sld hx hb hX hbl hbA hS (in_p hi hL (k := 2) (by decide)) dL_law_256 ?_
  obtain ⟨rr, a2, hA2, hwc, hwm⟩ := p_delay hA hC hM (xs (nI (i + 1)).toNatClampNeg) (xs (nI (i + 2)).toNatClampNeg)
  refine lc_I (Z := ZC) (Z2 := ZM) (As := [.int (xs (nI (i + 1)).toNatClampNeg), .int (xs (nI (i + 2)).toNatClampNeg)]) (rest := []) ⟨hx, hb, hml, hown, hts⟩ (cwV 2 hts gL_law_X5_delay rfl rfl rfl hd_X5_delay ⟨Nat.le_of_ble_eq_true rfl, Nat.le_of_ble_eq_true rfl⟩) (mt_X5_delay l hE.2.2.1.1 σ _ (xs (nI (i + 1)).toNatClampNeg) (xs (nI (i + 2)).toNatClampNeg) _ hwc) (lrc_5 hE.2.2.1.1 hE.2.2.2.1.1 hP) hE.2.2.2.1.1 hE.2.2.2.2.1 hP hP2 hS rfl hl.1 rfl (Nat.le_of_ble_eq_true rfl) dL_law_257 ⟨hcl, hsl⟩ (fun r1 σ2 H locs hr1 hP hP2 hS => ?_)
  refine lv_aload_n hx hb dL_law_260 rfl (lv_at hl 1 rfl) ?_
  refine lv_aload_n hx hb dL_law_261 rfl (lv_at hl 3 rfl) ?_
  refine lv_iload_n hx hb dL_law_262 rfl (lv_at hl 0 rfl) ?_
  refine lv_iconst (v := nI 1) hx hb dL_law_263 (by decide) ?_
  refine lv_iadd hx hb dL_law_264 ?_
  rw [nI_p]
  refine va_sld hx hb hX hbl hbA hS (in_p hi hL (k := 1) (by decide)) dL_law_265 ?_
  refine lv_aload_n hx hb dL_law_266 rfl (lv_at hl 3 rfl) ?_
  refine lv_iload_n hx hb dL_law_267 rfl (lv_at hl 0 rfl) ?_
  refine lv_iconst (v := nI 2) hx hb dL_law_268 (by decide) ?_
  refine lv_iadd hx hb dL_law_269 ?_
  rw [nI_p]
  refine va_sld hx hb hX hbl hbA hS (in_p hi hL (k := 2) (by decide)) dL_law_270 ?_
  refine lc_I (Z := ZM) (Z2 := ZC) (As := [.int (xs (nI (i + 1)).toNatClampNeg), .int (xs (nI (i + 2)).toNatClampNeg)]) (rest := [.int r1]) ⟨hx, hb, hml, hown, hts⟩ (cwV 2 hts gL_law_X6_delay rfl rfl rfl hd_X6_delay ⟨Nat.le_of_ble_eq_true rfl, Nat.le_of_ble_eq_true rfl⟩) (mt_X6_delay l hE.2.2.1.2 τ _ (xs (nI (i + 1)).toNatClampNeg) (xs (nI (i + 2)).toNatClampNeg) _ hwm) (lrc_6 hE.2.2.1.2 hE.2.2.2.1.2 hP2) hE.2.2.2.1.2 hE.2.2.2.2.2 hP2 hP hS rfl hl.1 rfl (Nat.le_of_ble_eq_true rfl) dL_law_271 ⟨hcl, hsl⟩ (fun r2 τ2 H locs hr2 hP2 hP hS => ?_)
  refine lv_icmp_eq (tgt := 1183) hx hb dL_law_274 (by decide) (fun _ => hk _ _ _ _ _ hA2 hr1.1 hr2.1 hP hP2 hS) (fun h9 => absurd (hr1.2.trans hr2.2.symm) h9)
set_option maxHeartbeats 4000000 in
set_option maxRecDepth 100000 in
theorem law_c3 {p : Program} {l : Launch} {e : Env} {s : State} {m : MethodId} {below : List Frame} {meth : Method} {c : Code} {b L : Nat} {xs : Nat → Int32} {ZC ZM : ZW} (hE : LE p s m meth c b L xs ZC ZM) {i : Nat} (hi : i + 6 ≤ L) (hL : L ≤ 3072) {Q : State → Prop} {cells slots : Nat} (hcl : cells ≤ room_1.cells) (hsl : slots ≤ room_1.slots) {σ τ : SS} {a : AT} {H : Heap} {locs : List Loc} {ls : Array Slot} (hA : AB a) (hC : CI σ a) (hM : MI τ a) (hP : PZ ZC σ H) (hP2 : PZ ZM τ H) (hS : va_S (A0 s) s.heap H locs) (hl : lv_has ls 4 (lvL b i ZC ZM)) (hk : ∀ (σ τ : SS) (a : AT) (H : Heap) (locs : List Loc), AB a → CI σ a → MI τ a → PZ ZC σ H → PZ ZM τ H → va_S (A0 s) s.heap H locs → W p l e room_1 s m #[Value.ref b] below meth c H locs cells slots Q (F0 m 1183 ls [])) : W p l e room_1 s m #[Value.ref b] below meth c H locs cells slots Q (F0 m 279 ls []) := by
  obtain ⟨hx, hb, hr, hml, hown, hts0, hX, hbl, hlocks, hgv⟩ := hE.1
  have hts := hE.2.1
  have hown : s.vm.findClass RL = some m.cls := hown
  have hb : c.code = cL_law := hb
  have hbA : ¬ A0 s b := Nat.not_le.mpr hbl
  refine lv_aload_n hx hb dL_law_279 rfl (lv_at hl 2 rfl) ?_
  obtain ⟨rr, a2, hA2, hwc, hwm⟩ := p_back hA hC hM
  refine lc_I (Z := ZC) (Z2 := ZM) (As := []) (rest := []) ⟨hx, hb, hml, hown, hts⟩ (cwV 0 hts gL_law_X5_back rfl rfl rfl hd_X5_back ⟨Nat.le_of_ble_eq_true rfl, Nat.le_of_ble_eq_true rfl⟩) (mt_X5_back l hE.2.2.1.1 σ _ _ hwc) (lrc_5 hE.2.2.1.1 hE.2.2.2.1.1 hP) hE.2.2.2.1.1 hE.2.2.2.2.1 hP hP2 hS rfl hl.1 rfl (Nat.le_of_ble_eq_true rfl) dL_law_280 ⟨hcl, hsl⟩ (fun r1 σ2 H locs hr1 hP hP2 hS => ?_)
  refine lv_aload_n hx hb dL_law_283 rfl (lv_at hl 1 rfl) ?_
  refine lc_I (Z := ZM) (Z2 := ZC) (As := []) (rest := [.int r1]) ⟨hx, hb, hml, hown, hts⟩ (cwV 0 hts gL_law_X6_back rfl rfl rfl hd_X6_back ⟨Nat.le_of_ble_eq_true rfl, Nat.le_of_ble_eq_true rfl⟩) (mt_X6_back l hE.2.2.1.2 τ _ _ hwm) (lrc_6 hE.2.2.1.2 hE.2.2.2.1.2 hP2) hE.2.2.2.1.2 hE.2.2.2.2.2 hP2 hP hS rfl hl.1 rfl (Nat.le_of_ble_eq_true rfl) dL_law_284 ⟨hcl, hsl⟩ (fun r2 τ2 H locs hr2 hP2 hP hS => ?_)
  refine lv_icmp_eq (tgt := 1183) hx hb dL_law_287 (by decide) (fun _ => hk _ _ _ _ _ hA2 hr1.1 hr2.1 hP hP2 hS) (fun h9 => absurd (hr1.2.trans hr2.2.symm) h9)
set_option maxHeartbeats 4000000 in
set_option maxRecDepth 100000 in
theorem law_c4 {p : Program} {l : Launch} {e : Env} {s : State} {m : MethodId} {below : List Frame} {meth : Method} {c : Code} {b L : Nat} {xs : Nat → Int32} {ZC ZM : ZW} (hE : LE p s m meth c b L xs ZC ZM) {i : Nat} (hi : i + 6 ≤ L) (hL : L ≤ 3072) {Q : State → Prop} {cells slots : Nat} (hcl : cells ≤ room_1.cells) (hsl : slots ≤ room_1.slots) {σ τ : SS} {a : AT} {H : Heap} {locs : List Loc} {ls : Array Slot} (hA : AB a) (hC : CI σ a) (hM : MI τ a) (hP : PZ ZC σ H) (hP2 : PZ ZM τ H) (hS : va_S (A0 s) s.heap H locs) (hl : lv_has ls 4 (lvL b i ZC ZM)) (hk : ∀ (σ τ : SS) (a : AT) (H : Heap) (locs : List Loc), AB a → CI σ a → MI τ a → PZ ZC σ H → PZ ZM τ H → va_S (A0 s) s.heap H locs → W p l e room_1 s m #[Value.ref b] below meth c H locs cells slots Q (F0 m 1183 ls [])) : W p l e room_1 s m #[Value.ref b] below meth c H locs cells slots Q (F0 m 292 ls []) := by
  obtain ⟨hx, hb, hr, hml, hown, hts0, hX, hbl, hlocks, hgv⟩ := hE.1
  have hts := hE.2.1
  have hown : s.vm.findClass RL = some m.cls := hown
  have hb : c.code = cL_law := hb
  have hbA : ¬ A0 s b := Nat.not_le.mpr hbl
  refine lv_aload_n hx hb dL_law_292 rfl (lv_at hl 2 rfl) ?_
  refine lv_aload_n hx hb dL_law_293 rfl (lv_at hl 3 rfl) ?_
  refine lv_iload_n hx hb dL_law_294 rfl (lv_at hl 0 rfl) ?_
  refine lv_iconst (v := nI 1) hx hb dL_law_295 (by decide) ?_
  refine lv_iadd hx hb dL_law_296 ?_
  rw [nI_p]
  refine va_sld hx hb hX hbl hbA hS (in_p hi hL (k := 1) (by decide)) dL_law_297 ?_
  refine lv_aload_n hx hb dL_law_298 rfl (lv_at hl 3 rfl) ?_
  refine lv_iload_n hx hb dL_law_299 rfl (lv_at hl 0 rfl) ?_
  refine lv_iconst (v := nI 2) hx hb dL_law_300 (by decide) ?_
  refine lv_iadd hx hb dL_law_301 ?_
  rw [nI_p]
  refine va_sld hx hb hX hbl hbA hS (in_p hi hL (k := 2) (by decide)) dL_law_302 ?_
  obtain ⟨rr, a2, hA2, hwc, hwm⟩ := p_set hA hC hM (xs (nI (i + 1)).toNatClampNeg) (xs (nI (i + 2)).toNatClampNeg)
  refine lc_I (Z := ZC) (Z2 := ZM) (As := [.int (xs (nI (i + 1)).toNatClampNeg), .int (xs (nI (i + 2)).toNatClampNeg)]) (rest := []) ⟨hx, hb, hml, hown, hts⟩ (cwV 2 hts gL_law_X5_set rfl rfl rfl hd_X5_set ⟨Nat.le_of_ble_eq_true rfl, Nat.le_of_ble_eq_true rfl⟩) (mt_X5_set l hE.2.2.1.1 σ _ (xs (nI (i + 1)).toNatClampNeg) (xs (nI (i + 2)).toNatClampNeg) _ hwc) (lrc_5 hE.2.2.1.1 hE.2.2.2.1.1 hP) hE.2.2.2.1.1 hE.2.2.2.2.1 hP hP2 hS rfl hl.1 rfl (Nat.le_of_ble_eq_true rfl) dL_law_303 ⟨hcl, hsl⟩ (fun r1 σ2 H locs hr1 hP hP2 hS => ?_)
  refine lv_aload_n hx hb dL_law_306 rfl (lv_at hl 1 rfl) ?_
  refine lv_aload_n hx hb dL_law_307 rfl (lv_at hl 3 rfl) ?_
  refine lv_iload_n hx hb dL_law_308 rfl (lv_at hl 0 rfl) ?_
  refine lv_iconst (v := nI 1) hx hb dL_law_309 (by decide) ?_
  refine lv_iadd hx hb dL_law_310 ?_
  rw [nI_p]
  refine va_sld hx hb hX hbl hbA hS (in_p hi hL (k := 1) (by decide)) dL_law_311 ?_
  refine lv_aload_n hx hb dL_law_312 rfl (lv_at hl 3 rfl) ?_
  refine lv_iload_n hx hb dL_law_313 rfl (lv_at hl 0 rfl) ?_
  refine lv_iconst (v := nI 2) hx hb dL_law_314 (by decide) ?_
  refine lv_iadd hx hb dL_law_315 ?_
  rw [nI_p]
  refine va_sld hx hb hX hbl hbA hS (in_p hi hL (k := 2) (by decide)) dL_law_316 ?_
  refine lc_I (Z := ZM) (Z2 := ZC) (As := [.int (xs (nI (i + 1)).toNatClampNeg), .int (xs (nI (i + 2)).toNatClampNeg)]) (rest := [.int r1]) ⟨hx, hb, hml, hown, hts⟩ (cwV 2 hts gL_law_X6_set rfl rfl rfl hd_X6_set ⟨Nat.le_of_ble_eq_true rfl, Nat.le_of_ble_eq_true rfl⟩) (mt_X6_set l hE.2.2.1.2 τ _ (xs (nI (i + 1)).toNatClampNeg) (xs (nI (i + 2)).toNatClampNeg) _ hwm) (lrc_6 hE.2.2.1.2 hE.2.2.2.1.2 hP2) hE.2.2.2.1.2 hE.2.2.2.2.2 hP2 hP hS rfl hl.1 rfl (Nat.le_of_ble_eq_true rfl) dL_law_317 ⟨hcl, hsl⟩ (fun r2 τ2 H locs hr2 hP2 hP hS => ?_)
  refine lv_icmp_eq (tgt := 1183) hx hb dL_law_320 (by decide) (fun _ => hk _ _ _ _ _ hA2 hr1.1 hr2.1 hP hP2 hS) (fun h9 => absurd (hr1.2.trans hr2.2.symm) h9)
set_option maxHeartbeats 4000000 in
set_option maxRecDepth 100000 in
theorem law_c5 {p : Program} {l : Launch} {e : Env} {s : State} {m : MethodId} {below : List Frame} {meth : Method} {c : Code} {b L : Nat} {xs : Nat → Int32} {ZC ZM : ZW} (hE : LE p s m meth c b L xs ZC ZM) {i : Nat} (hi : i + 6 ≤ L) (hL : L ≤ 3072) {Q : State → Prop} {cells slots : Nat} (hcl : cells ≤ room_1.cells) (hsl : slots ≤ room_1.slots) {σ τ : SS} {a : AT} {H : Heap} {locs : List Loc} {ls : Array Slot} (hA : AB a) (hC : CI σ a) (hM : MI τ a) (hP : PZ ZC σ H) (hP2 : PZ ZM τ H) (hS : va_S (A0 s) s.heap H locs) (hl : lv_has ls 4 (lvL b i ZC ZM)) (hk : ∀ (σ τ : SS) (a : AT) (H : Heap) (locs : List Loc), AB a → CI σ a → MI τ a → PZ ZC σ H → PZ ZM τ H → va_S (A0 s) s.heap H locs → W p l e room_1 s m #[Value.ref b] below meth c H locs cells slots Q (F0 m 1183 ls [])) : W p l e room_1 s m #[Value.ref b] below meth c H locs cells slots Q (F0 m 325 ls []) := by
  obtain ⟨hx, hb, hr, hml, hown, hts0, hX, hbl, hlocks, hgv⟩ := hE.1
  have hts := hE.2.1
  have hown : s.vm.findClass RL = some m.cls := hown
  have hb : c.code = cL_law := hb
  have hbA : ¬ A0 s b := Nat.not_le.mpr hbl
  refine lv_aload_n hx hb dL_law_325 rfl (lv_at hl 2 rfl) ?_
  refine lv_aload_n hx hb dL_law_326 rfl (lv_at hl 3 rfl) ?_
  refine lv_iload_n hx hb dL_law_327 rfl (lv_at hl 0 rfl) ?_
  refine lv_iconst (v := nI 1) hx hb dL_law_328 (by decide) ?_
  refine lv_iadd hx hb dL_law_329 ?_
  rw [nI_p]
  refine va_sld hx hb hX hbl hbA hS (in_p hi hL (k := 1) (by decide)) dL_law_330 ?_
  obtain ⟨rr, a2, hA2, hwc, hwm⟩ := p_silence hA hC hM (xs (nI (i + 1)).toNatClampNeg)
  refine lc_I (Z := ZC) (Z2 := ZM) (As := [.int (xs (nI (i + 1)).toNatClampNeg)]) (rest := []) ⟨hx, hb, hml, hown, hts⟩ (cwV 1 hts gL_law_X5_silence rfl rfl rfl hd_X5_silence ⟨Nat.le_of_ble_eq_true rfl, Nat.le_of_ble_eq_true rfl⟩) (mt_X5_silence l hE.2.2.1.1 σ _ (xs (nI (i + 1)).toNatClampNeg) _ hwc) (lrc_5 hE.2.2.1.1 hE.2.2.2.1.1 hP) hE.2.2.2.1.1 hE.2.2.2.2.1 hP hP2 hS rfl hl.1 rfl (Nat.le_of_ble_eq_true rfl) dL_law_331 ⟨hcl, hsl⟩ (fun r1 σ2 H locs hr1 hP hP2 hS => ?_)
  refine lv_aload_n hx hb dL_law_334 rfl (lv_at hl 1 rfl) ?_
  refine lv_aload_n hx hb dL_law_335 rfl (lv_at hl 3 rfl) ?_
  refine lv_iload_n hx hb dL_law_336 rfl (lv_at hl 0 rfl) ?_
  refine lv_iconst (v := nI 1) hx hb dL_law_337 (by decide) ?_
  refine lv_iadd hx hb dL_law_338 ?_
  rw [nI_p]
  refine va_sld hx hb hX hbl hbA hS (in_p hi hL (k := 1) (by decide)) dL_law_339 ?_
  refine lc_I (Z := ZM) (Z2 := ZC) (As := [.int (xs (nI (i + 1)).toNatClampNeg)]) (rest := [.int r1]) ⟨hx, hb, hml, hown, hts⟩ (cwV 1 hts gL_law_X6_silence rfl rfl rfl hd_X6_silence ⟨Nat.le_of_ble_eq_true rfl, Nat.le_of_ble_eq_true rfl⟩) (mt_X6_silence l hE.2.2.1.2 τ _ (xs (nI (i + 1)).toNatClampNeg) _ hwm) (lrc_6 hE.2.2.1.2 hE.2.2.2.1.2 hP2) hE.2.2.2.1.2 hE.2.2.2.2.2 hP2 hP hS rfl hl.1 rfl (Nat.le_of_ble_eq_true rfl) dL_law_340 ⟨hcl, hsl⟩ (fun r2 τ2 H locs hr2 hP2 hP hS => ?_)
  refine lv_icmp_eq (tgt := 1183) hx hb dL_law_343 (by decide) (fun _ => hk _ _ _ _ _ hA2 hr1.1 hr2.1 hP hP2 hS) (fun h9 => absurd (hr1.2.trans hr2.2.symm) h9)
set_option maxHeartbeats 4000000 in
set_option maxRecDepth 100000 in
theorem law_c6 {p : Program} {l : Launch} {e : Env} {s : State} {m : MethodId} {below : List Frame} {meth : Method} {c : Code} {b L : Nat} {xs : Nat → Int32} {ZC ZM : ZW} (hE : LE p s m meth c b L xs ZC ZM) {i : Nat} (hi : i + 6 ≤ L) (hL : L ≤ 3072) {Q : State → Prop} {cells slots : Nat} (hcl : cells ≤ room_1.cells) (hsl : slots ≤ room_1.slots) {σ τ : SS} {a : AT} {H : Heap} {locs : List Loc} {ls : Array Slot} (hA : AB a) (hC : CI σ a) (hM : MI τ a) (hP : PZ ZC σ H) (hP2 : PZ ZM τ H) (hS : va_S (A0 s) s.heap H locs) (hl : lv_has ls 4 (lvL b i ZC ZM)) (hk : ∀ (σ τ : SS) (a : AT) (H : Heap) (locs : List Loc), AB a → CI σ a → MI τ a → PZ ZC σ H → PZ ZM τ H → va_S (A0 s) s.heap H locs → W p l e room_1 s m #[Value.ref b] below meth c H locs cells slots Q (F0 m 1183 ls [])) : W p l e room_1 s m #[Value.ref b] below meth c H locs cells slots Q (F0 m 348 ls []) := by
  obtain ⟨hx, hb, hr, hml, hown, hts0, hX, hbl, hlocks, hgv⟩ := hE.1
  have hts := hE.2.1
  have hown : s.vm.findClass RL = some m.cls := hown
  have hb : c.code = cL_law := hb
  have hbA : ¬ A0 s b := Nat.not_le.mpr hbl
  refine lv_aload_n hx hb dL_law_348 rfl (lv_at hl 2 rfl) ?_
  refine lv_aload_n hx hb dL_law_349 rfl (lv_at hl 3 rfl) ?_
  refine lv_iload_n hx hb dL_law_350 rfl (lv_at hl 0 rfl) ?_
  refine lv_iconst (v := nI 1) hx hb dL_law_351 (by decide) ?_
  refine lv_iadd hx hb dL_law_352 ?_
  rw [nI_p]
  refine va_sld hx hb hX hbl hbA hS (in_p hi hL (k := 1) (by decide)) dL_law_353 ?_
  obtain ⟨rr, a2, hA2, hwc, hwm⟩ := p_read hA hC hM (xs (nI (i + 1)).toNatClampNeg)
  refine lc_I (Z := ZC) (Z2 := ZM) (As := [.int (xs (nI (i + 1)).toNatClampNeg)]) (rest := []) ⟨hx, hb, hml, hown, hts⟩ (cwV 1 hts gL_law_X5_read rfl rfl rfl hd_X5_read ⟨Nat.le_of_ble_eq_true rfl, Nat.le_of_ble_eq_true rfl⟩) (mt_X5_read l hE.2.2.1.1 σ _ (xs (nI (i + 1)).toNatClampNeg) _ hwc) (lrc_5 hE.2.2.1.1 hE.2.2.2.1.1 hP) hE.2.2.2.1.1 hE.2.2.2.2.1 hP hP2 hS rfl hl.1 rfl (Nat.le_of_ble_eq_true rfl) dL_law_354 ⟨hcl, hsl⟩ (fun r1 σ2 H locs hr1 hP hP2 hS => ?_)
  refine lv_aload_n hx hb dL_law_357 rfl (lv_at hl 1 rfl) ?_
  refine lv_aload_n hx hb dL_law_358 rfl (lv_at hl 3 rfl) ?_
  refine lv_iload_n hx hb dL_law_359 rfl (lv_at hl 0 rfl) ?_
  refine lv_iconst (v := nI 1) hx hb dL_law_360 (by decide) ?_
  refine lv_iadd hx hb dL_law_361 ?_
  rw [nI_p]
  refine va_sld hx hb hX hbl hbA hS (in_p hi hL (k := 1) (by decide)) dL_law_362 ?_
  refine lc_I (Z := ZM) (Z2 := ZC) (As := [.int (xs (nI (i + 1)).toNatClampNeg)]) (rest := [.int r1]) ⟨hx, hb, hml, hown, hts⟩ (cwV 1 hts gL_law_X6_read rfl rfl rfl hd_X6_read ⟨Nat.le_of_ble_eq_true rfl, Nat.le_of_ble_eq_true rfl⟩) (mt_X6_read l hE.2.2.1.2 τ _ (xs (nI (i + 1)).toNatClampNeg) _ hwm) (lrc_6 hE.2.2.1.2 hE.2.2.2.1.2 hP2) hE.2.2.2.1.2 hE.2.2.2.2.2 hP2 hP hS rfl hl.1 rfl (Nat.le_of_ble_eq_true rfl) dL_law_363 ⟨hcl, hsl⟩ (fun r2 τ2 H locs hr2 hP2 hP hS => ?_)
  refine lv_icmp_eq (tgt := 1183) hx hb dL_law_366 (by decide) (fun _ => hk _ _ _ _ _ hA2 hr1.1 hr2.1 hP hP2 hS) (fun h9 => absurd (hr1.2.trans hr2.2.symm) h9)
set_option maxHeartbeats 4000000 in
set_option maxRecDepth 100000 in
theorem law_c7 {p : Program} {l : Launch} {e : Env} {s : State} {m : MethodId} {below : List Frame} {meth : Method} {c : Code} {b L : Nat} {xs : Nat → Int32} {ZC ZM : ZW} (hE : LE p s m meth c b L xs ZC ZM) {i : Nat} (hi : i + 6 ≤ L) (hL : L ≤ 3072) {Q : State → Prop} {cells slots : Nat} (hcl : cells ≤ room_1.cells) (hsl : slots ≤ room_1.slots) {σ τ : SS} {a : AT} {H : Heap} {locs : List Loc} {ls : Array Slot} (hA : AB a) (hC : CI σ a) (hM : MI τ a) (hP : PZ ZC σ H) (hP2 : PZ ZM τ H) (hS : va_S (A0 s) s.heap H locs) (hl : lv_has ls 4 (lvL b i ZC ZM)) (hk : ∀ (σ τ : SS) (a : AT) (H : Heap) (locs : List Loc), AB a → CI σ a → MI τ a → PZ ZC σ H → PZ ZM τ H → va_S (A0 s) s.heap H locs → W p l e room_1 s m #[Value.ref b] below meth c H locs cells slots Q (F0 m 1183 ls [])) : W p l e room_1 s m #[Value.ref b] below meth c H locs cells slots Q (F0 m 371 ls []) := by
  obtain ⟨hx, hb, hr, hml, hown, hts0, hX, hbl, hlocks, hgv⟩ := hE.1
  have hts := hE.2.1
  have hown : s.vm.findClass RL = some m.cls := hown
  have hb : c.code = cL_law := hb
  have hbA : ¬ A0 s b := Nat.not_le.mpr hbl
  refine lv_aload_n hx hb dL_law_371 rfl (lv_at hl 2 rfl) ?_
  refine lv_aload_n hx hb dL_law_372 rfl (lv_at hl 3 rfl) ?_
  refine lv_iload_n hx hb dL_law_373 rfl (lv_at hl 0 rfl) ?_
  refine lv_iconst (v := nI 1) hx hb dL_law_374 (by decide) ?_
  refine lv_iadd hx hb dL_law_375 ?_
  rw [nI_p]
  refine va_sld hx hb hX hbl hbA hS (in_p hi hL (k := 1) (by decide)) dL_law_376 ?_
  refine lv_aload_n hx hb dL_law_377 rfl (lv_at hl 3 rfl) ?_
  refine lv_iload_n hx hb dL_law_378 rfl (lv_at hl 0 rfl) ?_
  refine lv_iconst (v := nI 2) hx hb dL_law_379 (by decide) ?_
  refine lv_iadd hx hb dL_law_380 ?_
  rw [nI_p]
  refine va_sld hx hb hX hbl hbA hS (in_p hi hL (k := 2) (by decide)) dL_law_381 ?_
  obtain ⟨rr, a2, hA2, hwc, hwm⟩ := p_came hA hC hM (xs (nI (i + 1)).toNatClampNeg) (xs (nI (i + 2)).toNatClampNeg)
  refine lc_I (Z := ZC) (Z2 := ZM) (As := [.int (xs (nI (i + 1)).toNatClampNeg), .int (xs (nI (i + 2)).toNatClampNeg)]) (rest := []) ⟨hx, hb, hml, hown, hts⟩ (cwV 2 hts gL_law_X5_came rfl rfl rfl hd_X5_came ⟨Nat.le_of_ble_eq_true rfl, Nat.le_of_ble_eq_true rfl⟩) (mt_X5_came l hE.2.2.1.1 σ _ (xs (nI (i + 1)).toNatClampNeg) (xs (nI (i + 2)).toNatClampNeg) _ hwc) (lrc_5 hE.2.2.1.1 hE.2.2.2.1.1 hP) hE.2.2.2.1.1 hE.2.2.2.2.1 hP hP2 hS rfl hl.1 rfl (Nat.le_of_ble_eq_true rfl) dL_law_382 ⟨hcl, hsl⟩ (fun r1 σ2 H locs hr1 hP hP2 hS => ?_)
  refine lv_aload_n hx hb dL_law_385 rfl (lv_at hl 1 rfl) ?_
  refine lv_aload_n hx hb dL_law_386 rfl (lv_at hl 3 rfl) ?_
  refine lv_iload_n hx hb dL_law_387 rfl (lv_at hl 0 rfl) ?_
  refine lv_iconst (v := nI 1) hx hb dL_law_388 (by decide) ?_
  refine lv_iadd hx hb dL_law_389 ?_
  rw [nI_p]
  refine va_sld hx hb hX hbl hbA hS (in_p hi hL (k := 1) (by decide)) dL_law_390 ?_
  refine lv_aload_n hx hb dL_law_391 rfl (lv_at hl 3 rfl) ?_
  refine lv_iload_n hx hb dL_law_392 rfl (lv_at hl 0 rfl) ?_
  refine lv_iconst (v := nI 2) hx hb dL_law_393 (by decide) ?_
  refine lv_iadd hx hb dL_law_394 ?_
  rw [nI_p]
  refine va_sld hx hb hX hbl hbA hS (in_p hi hL (k := 2) (by decide)) dL_law_395 ?_
  refine lc_I (Z := ZM) (Z2 := ZC) (As := [.int (xs (nI (i + 1)).toNatClampNeg), .int (xs (nI (i + 2)).toNatClampNeg)]) (rest := [.int r1]) ⟨hx, hb, hml, hown, hts⟩ (cwV 2 hts gL_law_X6_came rfl rfl rfl hd_X6_came ⟨Nat.le_of_ble_eq_true rfl, Nat.le_of_ble_eq_true rfl⟩) (mt_X6_came l hE.2.2.1.2 τ _ (xs (nI (i + 1)).toNatClampNeg) (xs (nI (i + 2)).toNatClampNeg) _ hwm) (lrc_6 hE.2.2.1.2 hE.2.2.2.1.2 hP2) hE.2.2.2.1.2 hE.2.2.2.2.2 hP2 hP hS rfl hl.1 rfl (Nat.le_of_ble_eq_true rfl) dL_law_396 ⟨hcl, hsl⟩ (fun r2 τ2 H locs hr2 hP2 hP hS => ?_)
  refine lv_icmp_eq (tgt := 1183) hx hb dL_law_399 (by decide) (fun _ => hk _ _ _ _ _ hA2 hr1.1 hr2.1 hP hP2 hS) (fun h9 => absurd (hr1.2.trans hr2.2.symm) h9)
set_option maxHeartbeats 4000000 in
set_option maxRecDepth 100000 in
theorem law_c8 {p : Program} {l : Launch} {e : Env} {s : State} {m : MethodId} {below : List Frame} {meth : Method} {c : Code} {b L : Nat} {xs : Nat → Int32} {ZC ZM : ZW} (hE : LE p s m meth c b L xs ZC ZM) {i : Nat} (hi : i + 6 ≤ L) (hL : L ≤ 3072) {Q : State → Prop} {cells slots : Nat} (hcl : cells ≤ room_1.cells) (hsl : slots ≤ room_1.slots) {σ τ : SS} {a : AT} {H : Heap} {locs : List Loc} {ls : Array Slot} (hA : AB a) (hC : CI σ a) (hM : MI τ a) (hP : PZ ZC σ H) (hP2 : PZ ZM τ H) (hS : va_S (A0 s) s.heap H locs) (hl : lv_has ls 4 (lvL b i ZC ZM)) (hk : ∀ (σ τ : SS) (a : AT) (H : Heap) (locs : List Loc), AB a → CI σ a → MI τ a → PZ ZC σ H → PZ ZM τ H → va_S (A0 s) s.heap H locs → W p l e room_1 s m #[Value.ref b] below meth c H locs cells slots Q (F0 m 1183 ls [])) : W p l e room_1 s m #[Value.ref b] below meth c H locs cells slots Q (F0 m 404 ls []) := by
  obtain ⟨hx, hb, hr, hml, hown, hts0, hX, hbl, hlocks, hgv⟩ := hE.1
  have hts := hE.2.1
  have hown : s.vm.findClass RL = some m.cls := hown
  have hb : c.code = cL_law := hb
  have hbA : ¬ A0 s b := Nat.not_le.mpr hbl
  refine lv_aload_n hx hb dL_law_404 rfl (lv_at hl 2 rfl) ?_
  refine lv_aload_n hx hb dL_law_405 rfl (lv_at hl 3 rfl) ?_
  refine lv_iload_n hx hb dL_law_406 rfl (lv_at hl 0 rfl) ?_
  refine lv_iconst (v := nI 1) hx hb dL_law_407 (by decide) ?_
  refine lv_iadd hx hb dL_law_408 ?_
  rw [nI_p]
  refine va_sld hx hb hX hbl hbA hS (in_p hi hL (k := 1) (by decide)) dL_law_409 ?_
  refine lv_aload_n hx hb dL_law_410 rfl (lv_at hl 3 rfl) ?_
  refine lv_iload_n hx hb dL_law_411 rfl (lv_at hl 0 rfl) ?_
  refine lv_iconst (v := nI 2) hx hb dL_law_412 (by decide) ?_
  refine lv_iadd hx hb dL_law_413 ?_
  rw [nI_p]
  refine va_sld hx hb hX hbl hbA hS (in_p hi hL (k := 2) (by decide)) dL_law_414 ?_
  obtain ⟨rr, a2, hA2, hwc, hwm⟩ := p_news hA hC hM (xs (nI (i + 1)).toNatClampNeg) (xs (nI (i + 2)).toNatClampNeg)
  refine lc_I (Z := ZC) (Z2 := ZM) (As := [.int (xs (nI (i + 1)).toNatClampNeg), .int (xs (nI (i + 2)).toNatClampNeg)]) (rest := []) ⟨hx, hb, hml, hown, hts⟩ (cwV 2 hts gL_law_X5_news rfl rfl rfl hd_X5_news ⟨Nat.le_of_ble_eq_true rfl, Nat.le_of_ble_eq_true rfl⟩) (mt_X5_news l hE.2.2.1.1 σ _ (xs (nI (i + 1)).toNatClampNeg) (xs (nI (i + 2)).toNatClampNeg) _ hwc) (lrc_5 hE.2.2.1.1 hE.2.2.2.1.1 hP) hE.2.2.2.1.1 hE.2.2.2.2.1 hP hP2 hS rfl hl.1 rfl (Nat.le_of_ble_eq_true rfl) dL_law_415 ⟨hcl, hsl⟩ (fun r1 σ2 H locs hr1 hP hP2 hS => ?_)
  refine lv_aload_n hx hb dL_law_418 rfl (lv_at hl 1 rfl) ?_
  refine lv_aload_n hx hb dL_law_419 rfl (lv_at hl 3 rfl) ?_
  refine lv_iload_n hx hb dL_law_420 rfl (lv_at hl 0 rfl) ?_
  refine lv_iconst (v := nI 1) hx hb dL_law_421 (by decide) ?_
  refine lv_iadd hx hb dL_law_422 ?_
  rw [nI_p]
  refine va_sld hx hb hX hbl hbA hS (in_p hi hL (k := 1) (by decide)) dL_law_423 ?_
  refine lv_aload_n hx hb dL_law_424 rfl (lv_at hl 3 rfl) ?_
  refine lv_iload_n hx hb dL_law_425 rfl (lv_at hl 0 rfl) ?_
  refine lv_iconst (v := nI 2) hx hb dL_law_426 (by decide) ?_
  refine lv_iadd hx hb dL_law_427 ?_
  rw [nI_p]
  refine va_sld hx hb hX hbl hbA hS (in_p hi hL (k := 2) (by decide)) dL_law_428 ?_
  refine lc_I (Z := ZM) (Z2 := ZC) (As := [.int (xs (nI (i + 1)).toNatClampNeg), .int (xs (nI (i + 2)).toNatClampNeg)]) (rest := [.int r1]) ⟨hx, hb, hml, hown, hts⟩ (cwV 2 hts gL_law_X6_news rfl rfl rfl hd_X6_news ⟨Nat.le_of_ble_eq_true rfl, Nat.le_of_ble_eq_true rfl⟩) (mt_X6_news l hE.2.2.1.2 τ _ (xs (nI (i + 1)).toNatClampNeg) (xs (nI (i + 2)).toNatClampNeg) _ hwm) (lrc_6 hE.2.2.1.2 hE.2.2.2.1.2 hP2) hE.2.2.2.1.2 hE.2.2.2.2.2 hP2 hP hS rfl hl.1 rfl (Nat.le_of_ble_eq_true rfl) dL_law_429 ⟨hcl, hsl⟩ (fun r2 τ2 H locs hr2 hP2 hP hS => ?_)
  refine lv_icmp_eq (tgt := 1183) hx hb dL_law_432 (by decide) (fun _ => hk _ _ _ _ _ hA2 hr1.1 hr2.1 hP hP2 hS) (fun h9 => absurd (hr1.2.trans hr2.2.symm) h9)
set_option maxHeartbeats 4000000 in
set_option maxRecDepth 100000 in
theorem law_c9 {p : Program} {l : Launch} {e : Env} {s : State} {m : MethodId} {below : List Frame} {meth : Method} {c : Code} {b L : Nat} {xs : Nat → Int32} {ZC ZM : ZW} (hE : LE p s m meth c b L xs ZC ZM) {i : Nat} (hi : i + 6 ≤ L) (hL : L ≤ 3072) {Q : State → Prop} {cells slots : Nat} (hcl : cells ≤ room_1.cells) (hsl : slots ≤ room_1.slots) {σ τ : SS} {a : AT} {H : Heap} {locs : List Loc} {ls : Array Slot} (hA : AB a) (hC : CI σ a) (hM : MI τ a) (hP : PZ ZC σ H) (hP2 : PZ ZM τ H) (hS : va_S (A0 s) s.heap H locs) (hl : lv_has ls 4 (lvL b i ZC ZM)) (hk : ∀ (σ τ : SS) (a : AT) (H : Heap) (locs : List Loc), AB a → CI σ a → MI τ a → PZ ZC σ H → PZ ZM τ H → va_S (A0 s) s.heap H locs → W p l e room_1 s m #[Value.ref b] below meth c H locs cells slots Q (F0 m 1183 ls [])) : W p l e room_1 s m #[Value.ref b] below meth c H locs cells slots Q (F0 m 437 ls []) := by
  obtain ⟨hx, hb, hr, hml, hown, hts0, hX, hbl, hlocks, hgv⟩ := hE.1
  have hts := hE.2.1
  have hown : s.vm.findClass RL = some m.cls := hown
  have hb : c.code = cL_law := hb
  have hbA : ¬ A0 s b := Nat.not_le.mpr hbl
  refine lv_aload_n hx hb dL_law_437 rfl (lv_at hl 2 rfl) ?_
  refine lv_aload_n hx hb dL_law_438 rfl (lv_at hl 3 rfl) ?_
  refine lv_iload_n hx hb dL_law_439 rfl (lv_at hl 0 rfl) ?_
  refine lv_iconst (v := nI 1) hx hb dL_law_440 (by decide) ?_
  refine lv_iadd hx hb dL_law_441 ?_
  rw [nI_p]
  refine va_sld hx hb hX hbl hbA hS (in_p hi hL (k := 1) (by decide)) dL_law_442 ?_
  refine lv_aload_n hx hb dL_law_443 rfl (lv_at hl 3 rfl) ?_
  refine lv_iload_n hx hb dL_law_444 rfl (lv_at hl 0 rfl) ?_
  refine lv_iconst (v := nI 2) hx hb dL_law_445 (by decide) ?_
  refine lv_iadd hx hb dL_law_446 ?_
  rw [nI_p]
  refine va_sld hx hb hX hbl hbA hS (in_p hi hL (k := 2) (by decide)) dL_law_447 ?_
  obtain ⟨rr, a2, hA2, hwc, hwm⟩ := p_expected hA hC hM (xs (nI (i + 1)).toNatClampNeg) (xs (nI (i + 2)).toNatClampNeg)
  refine lc_L (Z := ZC) (Z2 := ZM) (As := [.int (xs (nI (i + 1)).toNatClampNeg), .int (xs (nI (i + 2)).toNatClampNeg)]) (rest := []) ⟨hx, hb, hml, hown, hts⟩ (cwV 2 hts gL_law_X5_expected rfl rfl rfl hd_X5_expected ⟨Nat.le_of_ble_eq_true rfl, Nat.le_of_ble_eq_true rfl⟩) (mt_X5_expected l hE.2.2.1.1 σ _ (xs (nI (i + 1)).toNatClampNeg) (xs (nI (i + 2)).toNatClampNeg) _ hwc) (lrc_5 hE.2.2.1.1 hE.2.2.2.1.1 hP) hE.2.2.2.1.1 hE.2.2.2.2.1 hP hP2 hS rfl hl.1 rfl (Nat.le_of_ble_eq_true rfl) dL_law_448 ⟨hcl, hsl⟩ (fun r1 σ2 H locs hr1 hP hP2 hS => ?_)
  refine lv_aload_n hx hb dL_law_451 rfl (lv_at hl 1 rfl) ?_
  refine lv_aload_n hx hb dL_law_452 rfl (lv_at hl 3 rfl) ?_
  refine lv_iload_n hx hb dL_law_453 rfl (lv_at hl 0 rfl) ?_
  refine lv_iconst (v := nI 1) hx hb dL_law_454 (by decide) ?_
  refine lv_iadd hx hb dL_law_455 ?_
  rw [nI_p]
  refine va_sld hx hb hX hbl hbA hS (in_p hi hL (k := 1) (by decide)) dL_law_456 ?_
  refine lv_aload_n hx hb dL_law_457 rfl (lv_at hl 3 rfl) ?_
  refine lv_iload_n hx hb dL_law_458 rfl (lv_at hl 0 rfl) ?_
  refine lv_iconst (v := nI 2) hx hb dL_law_459 (by decide) ?_
  refine lv_iadd hx hb dL_law_460 ?_
  rw [nI_p]
  refine va_sld hx hb hX hbl hbA hS (in_p hi hL (k := 2) (by decide)) dL_law_461 ?_
  refine lc_L (Z := ZM) (Z2 := ZC) (As := [.int (xs (nI (i + 1)).toNatClampNeg), .int (xs (nI (i + 2)).toNatClampNeg)]) (rest := [.long r1]) ⟨hx, hb, hml, hown, hts⟩ (cwV 2 hts gL_law_X6_expected rfl rfl rfl hd_X6_expected ⟨Nat.le_of_ble_eq_true rfl, Nat.le_of_ble_eq_true rfl⟩) (mt_X6_expected l hE.2.2.1.2 τ _ (xs (nI (i + 1)).toNatClampNeg) (xs (nI (i + 2)).toNatClampNeg) _ hwm) (lrc_6 hE.2.2.1.2 hE.2.2.2.1.2 hP2) hE.2.2.2.1.2 hE.2.2.2.2.2 hP2 hP hS rfl hl.1 rfl (Nat.le_of_ble_eq_true rfl) dL_law_462 ⟨hcl, hsl⟩ (fun r2 τ2 H locs hr2 hP2 hP hS => ?_)
  refine W.lcmp hx hb dL_law_465 ?_
  refine lv_if_eq (tgt := 1183) hx hb dL_law_466 (by decide) (fun _ => hk _ _ _ _ _ hA2 hr1.1 hr2.1 hP hP2 hS) (fun h9 => absurd ((lg_cmp_eq _ _).mpr (hr1.2.trans hr2.2.symm)) h9)
set_option maxHeartbeats 4000000 in
set_option maxRecDepth 100000 in
theorem law_c10 {p : Program} {l : Launch} {e : Env} {s : State} {m : MethodId} {below : List Frame} {meth : Method} {c : Code} {b L : Nat} {xs : Nat → Int32} {ZC ZM : ZW} (hE : LE p s m meth c b L xs ZC ZM) {i : Nat} (hi : i + 6 ≤ L) (hL : L ≤ 3072) {Q : State → Prop} {cells slots : Nat} (hcl : cells ≤ room_1.cells) (hsl : slots ≤ room_1.slots) {σ τ : SS} {a : AT} {H : Heap} {locs : List Loc} {ls : Array Slot} (hA : AB a) (hC : CI σ a) (hM : MI τ a) (hP : PZ ZC σ H) (hP2 : PZ ZM τ H) (hS : va_S (A0 s) s.heap H locs) (hl : lv_has ls 4 (lvL b i ZC ZM)) (hk : ∀ (σ τ : SS) (a : AT) (H : Heap) (locs : List Loc), AB a → CI σ a → MI τ a → PZ ZC σ H → PZ ZM τ H → va_S (A0 s) s.heap H locs → W p l e room_1 s m #[Value.ref b] below meth c H locs cells slots Q (F0 m 1183 ls [])) : W p l e room_1 s m #[Value.ref b] below meth c H locs cells slots Q (F0 m 471 ls []) := by
  obtain ⟨hx, hb, hr, hml, hown, hts0, hX, hbl, hlocks, hgv⟩ := hE.1
  have hts := hE.2.1
  have hown : s.vm.findClass RL = some m.cls := hown
  have hb : c.code = cL_law := hb
  have hbA : ¬ A0 s b := Nat.not_le.mpr hbl
  refine lv_aload_n hx hb dL_law_471 rfl (lv_at hl 2 rfl) ?_
  refine lv_aload_n hx hb dL_law_472 rfl (lv_at hl 3 rfl) ?_
  refine lv_iload_n hx hb dL_law_473 rfl (lv_at hl 0 rfl) ?_
  refine lv_iconst (v := nI 1) hx hb dL_law_474 (by decide) ?_
  refine lv_iadd hx hb dL_law_475 ?_
  rw [nI_p]
  refine va_sld hx hb hX hbl hbA hS (in_p hi hL (k := 1) (by decide)) dL_law_476 ?_
  refine lv_aload_n hx hb dL_law_477 rfl (lv_at hl 3 rfl) ?_
  refine lv_iload_n hx hb dL_law_478 rfl (lv_at hl 0 rfl) ?_
  refine lv_iconst (v := nI 2) hx hb dL_law_479 (by decide) ?_
  refine lv_iadd hx hb dL_law_480 ?_
  rw [nI_p]
  refine va_sld hx hb hX hbl hbA hS (in_p hi hL (k := 2) (by decide)) dL_law_481 ?_
  obtain ⟨rr, a2, hA2, hwc, hwm⟩ := p_score hA hC hM (xs (nI (i + 1)).toNatClampNeg) (xs (nI (i + 2)).toNatClampNeg)
  refine lc_L (Z := ZC) (Z2 := ZM) (As := [.int (xs (nI (i + 1)).toNatClampNeg), .int (xs (nI (i + 2)).toNatClampNeg)]) (rest := []) ⟨hx, hb, hml, hown, hts⟩ (cwV 2 hts gL_law_X5_score rfl rfl rfl hd_X5_score ⟨Nat.le_of_ble_eq_true rfl, Nat.le_of_ble_eq_true rfl⟩) (mt_X5_score l hE.2.2.1.1 σ _ (xs (nI (i + 1)).toNatClampNeg) (xs (nI (i + 2)).toNatClampNeg) _ hwc) (lrc_5 hE.2.2.1.1 hE.2.2.2.1.1 hP) hE.2.2.2.1.1 hE.2.2.2.2.1 hP hP2 hS rfl hl.1 rfl (Nat.le_of_ble_eq_true rfl) dL_law_482 ⟨hcl, hsl⟩ (fun r1 σ2 H locs hr1 hP hP2 hS => ?_)
  refine lv_aload_n hx hb dL_law_485 rfl (lv_at hl 1 rfl) ?_
  refine lv_aload_n hx hb dL_law_486 rfl (lv_at hl 3 rfl) ?_
  refine lv_iload_n hx hb dL_law_487 rfl (lv_at hl 0 rfl) ?_
  refine lv_iconst (v := nI 1) hx hb dL_law_488 (by decide) ?_
  refine lv_iadd hx hb dL_law_489 ?_
  rw [nI_p]
  refine va_sld hx hb hX hbl hbA hS (in_p hi hL (k := 1) (by decide)) dL_law_490 ?_
  refine lv_aload_n hx hb dL_law_491 rfl (lv_at hl 3 rfl) ?_
  refine lv_iload_n hx hb dL_law_492 rfl (lv_at hl 0 rfl) ?_
  refine lv_iconst (v := nI 2) hx hb dL_law_493 (by decide) ?_
  refine lv_iadd hx hb dL_law_494 ?_
  rw [nI_p]
  refine va_sld hx hb hX hbl hbA hS (in_p hi hL (k := 2) (by decide)) dL_law_495 ?_
  refine lc_L (Z := ZM) (Z2 := ZC) (As := [.int (xs (nI (i + 1)).toNatClampNeg), .int (xs (nI (i + 2)).toNatClampNeg)]) (rest := [.long r1]) ⟨hx, hb, hml, hown, hts⟩ (cwV 2 hts gL_law_X6_score rfl rfl rfl hd_X6_score ⟨Nat.le_of_ble_eq_true rfl, Nat.le_of_ble_eq_true rfl⟩) (mt_X6_score l hE.2.2.1.2 τ _ (xs (nI (i + 1)).toNatClampNeg) (xs (nI (i + 2)).toNatClampNeg) _ hwm) (lrc_6 hE.2.2.1.2 hE.2.2.2.1.2 hP2) hE.2.2.2.1.2 hE.2.2.2.2.2 hP2 hP hS rfl hl.1 rfl (Nat.le_of_ble_eq_true rfl) dL_law_496 ⟨hcl, hsl⟩ (fun r2 τ2 H locs hr2 hP2 hP hS => ?_)
  refine W.lcmp hx hb dL_law_499 ?_
  refine lv_if_eq (tgt := 1183) hx hb dL_law_500 (by decide) (fun _ => hk _ _ _ _ _ hA2 hr1.1 hr2.1 hP hP2 hS) (fun h9 => absurd ((lg_cmp_eq _ _).mpr (hr1.2.trans hr2.2.symm)) h9)
set_option maxHeartbeats 4000000 in
set_option maxRecDepth 100000 in
theorem law_c11 {p : Program} {l : Launch} {e : Env} {s : State} {m : MethodId} {below : List Frame} {meth : Method} {c : Code} {b L : Nat} {xs : Nat → Int32} {ZC ZM : ZW} (hE : LE p s m meth c b L xs ZC ZM) {i : Nat} (hi : i + 6 ≤ L) (hL : L ≤ 3072) {Q : State → Prop} {cells slots : Nat} (hcl : cells ≤ room_1.cells) (hsl : slots ≤ room_1.slots) {σ τ : SS} {a : AT} {H : Heap} {locs : List Loc} {ls : Array Slot} (hA : AB a) (hC : CI σ a) (hM : MI τ a) (hP : PZ ZC σ H) (hP2 : PZ ZM τ H) (hS : va_S (A0 s) s.heap H locs) (hl : lv_has ls 4 (lvL b i ZC ZM)) (hk : ∀ (σ τ : SS) (a : AT) (H : Heap) (locs : List Loc), AB a → CI σ a → MI τ a → PZ ZC σ H → PZ ZM τ H → va_S (A0 s) s.heap H locs → W p l e room_1 s m #[Value.ref b] below meth c H locs cells slots Q (F0 m 1183 ls [])) : W p l e room_1 s m #[Value.ref b] below meth c H locs cells slots Q (F0 m 505 ls []) := by
  obtain ⟨hx, hb, hr, hml, hown, hts0, hX, hbl, hlocks, hgv⟩ := hE.1
  have hts := hE.2.1
  have hown : s.vm.findClass RL = some m.cls := hown
  have hb : c.code = cL_law := hb
  have hbA : ¬ A0 s b := Nat.not_le.mpr hbl
  refine lv_aload_n hx hb dL_law_505 rfl (lv_at hl 2 rfl) ?_
  refine lv_aload_n hx hb dL_law_506 rfl (lv_at hl 3 rfl) ?_
  refine lv_iload_n hx hb dL_law_507 rfl (lv_at hl 0 rfl) ?_
  refine lv_iconst (v := nI 1) hx hb dL_law_508 (by decide) ?_
  refine lv_iadd hx hb dL_law_509 ?_
  rw [nI_p]
  refine va_sld hx hb hX hbl hbA hS (in_p hi hL (k := 1) (by decide)) dL_law_510 ?_
  refine lv_aload_n hx hb dL_law_511 rfl (lv_at hl 3 rfl) ?_
  refine lv_iload_n hx hb dL_law_512 rfl (lv_at hl 0 rfl) ?_
  refine lv_iconst (v := nI 2) hx hb dL_law_513 (by decide) ?_
  refine lv_iadd hx hb dL_law_514 ?_
  rw [nI_p]
  refine va_sld hx hb hX hbl hbA hS (in_p hi hL (k := 2) (by decide)) dL_law_515 ?_
  obtain ⟨rr, a2, hA2, hwc, hwm⟩ := p_watcher hA hC hM (xs (nI (i + 1)).toNatClampNeg) (xs (nI (i + 2)).toNatClampNeg)
  refine lc_I (Z := ZC) (Z2 := ZM) (As := [.int (xs (nI (i + 1)).toNatClampNeg), .int (xs (nI (i + 2)).toNatClampNeg)]) (rest := []) ⟨hx, hb, hml, hown, hts⟩ (cwV 2 hts gL_law_X5_watcher rfl rfl rfl hd_X5_watcher ⟨Nat.le_of_ble_eq_true rfl, Nat.le_of_ble_eq_true rfl⟩) (mt_X5_watcher l hE.2.2.1.1 σ _ (xs (nI (i + 1)).toNatClampNeg) (xs (nI (i + 2)).toNatClampNeg) _ hwc) (lrc_5 hE.2.2.1.1 hE.2.2.2.1.1 hP) hE.2.2.2.1.1 hE.2.2.2.2.1 hP hP2 hS rfl hl.1 rfl (Nat.le_of_ble_eq_true rfl) dL_law_516 ⟨hcl, hsl⟩ (fun r1 σ2 H locs hr1 hP hP2 hS => ?_)
  refine lv_aload_n hx hb dL_law_519 rfl (lv_at hl 1 rfl) ?_
  refine lv_aload_n hx hb dL_law_520 rfl (lv_at hl 3 rfl) ?_
  refine lv_iload_n hx hb dL_law_521 rfl (lv_at hl 0 rfl) ?_
  refine lv_iconst (v := nI 1) hx hb dL_law_522 (by decide) ?_
  refine lv_iadd hx hb dL_law_523 ?_
  rw [nI_p]
  refine va_sld hx hb hX hbl hbA hS (in_p hi hL (k := 1) (by decide)) dL_law_524 ?_
  refine lv_aload_n hx hb dL_law_525 rfl (lv_at hl 3 rfl) ?_
  refine lv_iload_n hx hb dL_law_526 rfl (lv_at hl 0 rfl) ?_
  refine lv_iconst (v := nI 2) hx hb dL_law_527 (by decide) ?_
  refine lv_iadd hx hb dL_law_528 ?_
  rw [nI_p]
  refine va_sld hx hb hX hbl hbA hS (in_p hi hL (k := 2) (by decide)) dL_law_529 ?_
  refine lc_I (Z := ZM) (Z2 := ZC) (As := [.int (xs (nI (i + 1)).toNatClampNeg), .int (xs (nI (i + 2)).toNatClampNeg)]) (rest := [.int r1]) ⟨hx, hb, hml, hown, hts⟩ (cwV 2 hts gL_law_X6_watcher rfl rfl rfl hd_X6_watcher ⟨Nat.le_of_ble_eq_true rfl, Nat.le_of_ble_eq_true rfl⟩) (mt_X6_watcher l hE.2.2.1.2 τ _ (xs (nI (i + 1)).toNatClampNeg) (xs (nI (i + 2)).toNatClampNeg) _ hwm) (lrc_6 hE.2.2.1.2 hE.2.2.2.1.2 hP2) hE.2.2.2.1.2 hE.2.2.2.2.2 hP2 hP hS rfl hl.1 rfl (Nat.le_of_ble_eq_true rfl) dL_law_530 ⟨hcl, hsl⟩ (fun r2 τ2 H locs hr2 hP2 hP hS => ?_)
  refine lv_icmp_eq (tgt := 1183) hx hb dL_law_533 (by decide) (fun _ => hk _ _ _ _ _ hA2 hr1.1 hr2.1 hP hP2 hS) (fun h9 => absurd (hr1.2.trans hr2.2.symm) h9)
set_option maxHeartbeats 4000000 in
set_option maxRecDepth 100000 in
theorem law_c12 {p : Program} {l : Launch} {e : Env} {s : State} {m : MethodId} {below : List Frame} {meth : Method} {c : Code} {b L : Nat} {xs : Nat → Int32} {ZC ZM : ZW} (hE : LE p s m meth c b L xs ZC ZM) {i : Nat} (hi : i + 6 ≤ L) (hL : L ≤ 3072) {Q : State → Prop} {cells slots : Nat} (hcl : cells ≤ room_1.cells) (hsl : slots ≤ room_1.slots) {σ τ : SS} {a : AT} {H : Heap} {locs : List Loc} {ls : Array Slot} (hA : AB a) (hC : CI σ a) (hM : MI τ a) (hP : PZ ZC σ H) (hP2 : PZ ZM τ H) (hS : va_S (A0 s) s.heap H locs) (hl : lv_has ls 4 (lvL b i ZC ZM)) (hk : ∀ (σ τ : SS) (a : AT) (H : Heap) (locs : List Loc), AB a → CI σ a → MI τ a → PZ ZC σ H → PZ ZM τ H → va_S (A0 s) s.heap H locs → W p l e room_1 s m #[Value.ref b] below meth c H locs cells slots Q (F0 m 1183 ls [])) : W p l e room_1 s m #[Value.ref b] below meth c H locs cells slots Q (F0 m 538 ls []) := by
  obtain ⟨hx, hb, hr, hml, hown, hts0, hX, hbl, hlocks, hgv⟩ := hE.1
  have hts := hE.2.1
  have hown : s.vm.findClass RL = some m.cls := hown
  have hb : c.code = cL_law := hb
  have hbA : ¬ A0 s b := Nat.not_le.mpr hbl
  refine lv_aload_n hx hb dL_law_538 rfl (lv_at hl 2 rfl) ?_
  obtain ⟨rr, a2, hA2, hwc, hwm⟩ := p_leaves hA hC hM
  refine lc_I (Z := ZC) (Z2 := ZM) (As := []) (rest := []) ⟨hx, hb, hml, hown, hts⟩ (cwV 0 hts gL_law_X5_leaves rfl rfl rfl hd_X5_leaves ⟨Nat.le_of_ble_eq_true rfl, Nat.le_of_ble_eq_true rfl⟩) (mt_X5_leaves l hE.2.2.1.1 σ _ _ hwc) (lrc_5 hE.2.2.1.1 hE.2.2.2.1.1 hP) hE.2.2.2.1.1 hE.2.2.2.2.1 hP hP2 hS rfl hl.1 rfl (Nat.le_of_ble_eq_true rfl) dL_law_539 ⟨hcl, hsl⟩ (fun r1 σ2 H locs hr1 hP hP2 hS => ?_)
  refine lv_aload_n hx hb dL_law_542 rfl (lv_at hl 1 rfl) ?_
  refine lc_I (Z := ZM) (Z2 := ZC) (As := []) (rest := [.int r1]) ⟨hx, hb, hml, hown, hts⟩ (cwV 0 hts gL_law_X6_leaves rfl rfl rfl hd_X6_leaves ⟨Nat.le_of_ble_eq_true rfl, Nat.le_of_ble_eq_true rfl⟩) (mt_X6_leaves l hE.2.2.1.2 τ _ _ hwm) (lrc_6 hE.2.2.1.2 hE.2.2.2.1.2 hP2) hE.2.2.2.1.2 hE.2.2.2.2.2 hP2 hP hS rfl hl.1 rfl (Nat.le_of_ble_eq_true rfl) dL_law_543 ⟨hcl, hsl⟩ (fun r2 τ2 H locs hr2 hP2 hP hS => ?_)
  refine lv_icmp_eq (tgt := 1183) hx hb dL_law_546 (by decide) (fun _ => hk _ _ _ _ _ hA2 hr1.1 hr2.1 hP hP2 hS) (fun h9 => absurd (hr1.2.trans hr2.2.symm) h9)
set_option maxHeartbeats 4000000 in
set_option maxRecDepth 100000 in
theorem law_c13 {p : Program} {l : Launch} {e : Env} {s : State} {m : MethodId} {below : List Frame} {meth : Method} {c : Code} {b L : Nat} {xs : Nat → Int32} {ZC ZM : ZW} (hE : LE p s m meth c b L xs ZC ZM) {i : Nat} (hi : i + 6 ≤ L) (hL : L ≤ 3072) {Q : State → Prop} {cells slots : Nat} (hcl : cells ≤ room_1.cells) (hsl : slots ≤ room_1.slots) {σ τ : SS} {a : AT} {H : Heap} {locs : List Loc} {ls : Array Slot} (hA : AB a) (hC : CI σ a) (hM : MI τ a) (hP : PZ ZC σ H) (hP2 : PZ ZM τ H) (hS : va_S (A0 s) s.heap H locs) (hl : lv_has ls 4 (lvL b i ZC ZM)) (hk : ∀ (σ τ : SS) (a : AT) (H : Heap) (locs : List Loc), AB a → CI σ a → MI τ a → PZ ZC σ H → PZ ZM τ H → va_S (A0 s) s.heap H locs → W p l e room_1 s m #[Value.ref b] below meth c H locs cells slots Q (F0 m 1183 ls [])) : W p l e room_1 s m #[Value.ref b] below meth c H locs cells slots Q (F0 m 551 ls []) := by
  obtain ⟨hx, hb, hr, hml, hown, hts0, hX, hbl, hlocks, hgv⟩ := hE.1
  have hts := hE.2.1
  have hown : s.vm.findClass RL = some m.cls := hown
  have hb : c.code = cL_law := hb
  have hbA : ¬ A0 s b := Nat.not_le.mpr hbl
  refine lv_aload_n hx hb dL_law_551 rfl (lv_at hl 2 rfl) ?_
  refine lv_aload_n hx hb dL_law_552 rfl (lv_at hl 3 rfl) ?_
  refine lv_iload_n hx hb dL_law_553 rfl (lv_at hl 0 rfl) ?_
  refine lv_iconst (v := nI 1) hx hb dL_law_554 (by decide) ?_
  refine lv_iadd hx hb dL_law_555 ?_
  rw [nI_p]
  refine va_sld hx hb hX hbl hbA hS (in_p hi hL (k := 1) (by decide)) dL_law_556 ?_
  refine lv_aload_n hx hb dL_law_557 rfl (lv_at hl 3 rfl) ?_
  refine lv_iload_n hx hb dL_law_558 rfl (lv_at hl 0 rfl) ?_
  refine lv_iconst (v := nI 2) hx hb dL_law_559 (by decide) ?_
  refine lv_iadd hx hb dL_law_560 ?_
  rw [nI_p]
  refine va_sld hx hb hX hbl hbA hS (in_p hi hL (k := 2) (by decide)) dL_law_561 ?_
  obtain ⟨rr, a2, hA2, hwc, hwm⟩ := p_measure hA hC hM (xs (nI (i + 1)).toNatClampNeg) (xs (nI (i + 2)).toNatClampNeg)
  refine lc_I (Z := ZC) (Z2 := ZM) (As := [.int (xs (nI (i + 1)).toNatClampNeg), .int (xs (nI (i + 2)).toNatClampNeg)]) (rest := []) ⟨hx, hb, hml, hown, hts⟩ (cwV 2 hts gL_law_X5_measure rfl rfl rfl hd_X5_measure ⟨Nat.le_of_ble_eq_true rfl, Nat.le_of_ble_eq_true rfl⟩) (mt_X5_measure l hE.2.2.1.1 σ _ (xs (nI (i + 1)).toNatClampNeg) (xs (nI (i + 2)).toNatClampNeg) _ hwc) (lrc_5 hE.2.2.1.1 hE.2.2.2.1.1 hP) hE.2.2.2.1.1 hE.2.2.2.2.1 hP hP2 hS rfl hl.1 rfl (Nat.le_of_ble_eq_true rfl) dL_law_562 ⟨hcl, hsl⟩ (fun r1 σ2 H locs hr1 hP hP2 hS => ?_)
  refine lv_aload_n hx hb dL_law_565 rfl (lv_at hl 1 rfl) ?_
  refine lv_aload_n hx hb dL_law_566 rfl (lv_at hl 3 rfl) ?_
  refine lv_iload_n hx hb dL_law_567 rfl (lv_at hl 0 rfl) ?_
  refine lv_iconst (v := nI 1) hx hb dL_law_568 (by decide) ?_
  refine lv_iadd hx hb dL_law_569 ?_
  rw [nI_p]
  refine va_sld hx hb hX hbl hbA hS (in_p hi hL (k := 1) (by decide)) dL_law_570 ?_
  refine lv_aload_n hx hb dL_law_571 rfl (lv_at hl 3 rfl) ?_
  refine lv_iload_n hx hb dL_law_572 rfl (lv_at hl 0 rfl) ?_
  refine lv_iconst (v := nI 2) hx hb dL_law_573 (by decide) ?_
  refine lv_iadd hx hb dL_law_574 ?_
  rw [nI_p]
  refine va_sld hx hb hX hbl hbA hS (in_p hi hL (k := 2) (by decide)) dL_law_575 ?_
  refine lc_I (Z := ZM) (Z2 := ZC) (As := [.int (xs (nI (i + 1)).toNatClampNeg), .int (xs (nI (i + 2)).toNatClampNeg)]) (rest := [.int r1]) ⟨hx, hb, hml, hown, hts⟩ (cwV 2 hts gL_law_X6_measure rfl rfl rfl hd_X6_measure ⟨Nat.le_of_ble_eq_true rfl, Nat.le_of_ble_eq_true rfl⟩) (mt_X6_measure l hE.2.2.1.2 τ _ (xs (nI (i + 1)).toNatClampNeg) (xs (nI (i + 2)).toNatClampNeg) _ hwm) (lrc_6 hE.2.2.1.2 hE.2.2.2.1.2 hP2) hE.2.2.2.1.2 hE.2.2.2.2.2 hP2 hP hS rfl hl.1 rfl (Nat.le_of_ble_eq_true rfl) dL_law_576 ⟨hcl, hsl⟩ (fun r2 τ2 H locs hr2 hP2 hP hS => ?_)
  refine lv_icmp_eq (tgt := 1183) hx hb dL_law_579 (by decide) (fun _ => hk _ _ _ _ _ hA2 hr1.1 hr2.1 hP hP2 hS) (fun h9 => absurd (hr1.2.trans hr2.2.symm) h9)
set_option maxHeartbeats 4000000 in
set_option maxRecDepth 100000 in
theorem law_c14 {p : Program} {l : Launch} {e : Env} {s : State} {m : MethodId} {below : List Frame} {meth : Method} {c : Code} {b L : Nat} {xs : Nat → Int32} {ZC ZM : ZW} (hE : LE p s m meth c b L xs ZC ZM) {i : Nat} (hi : i + 6 ≤ L) (hL : L ≤ 3072) {Q : State → Prop} {cells slots : Nat} (hcl : cells ≤ room_1.cells) (hsl : slots ≤ room_1.slots) {σ τ : SS} {a : AT} {H : Heap} {locs : List Loc} {ls : Array Slot} (hA : AB a) (hC : CI σ a) (hM : MI τ a) (hP : PZ ZC σ H) (hP2 : PZ ZM τ H) (hS : va_S (A0 s) s.heap H locs) (hl : lv_has ls 4 (lvL b i ZC ZM)) (hk : ∀ (σ τ : SS) (a : AT) (H : Heap) (locs : List Loc), AB a → CI σ a → MI τ a → PZ ZC σ H → PZ ZM τ H → va_S (A0 s) s.heap H locs → W p l e room_1 s m #[Value.ref b] below meth c H locs cells slots Q (F0 m 1183 ls [])) : W p l e room_1 s m #[Value.ref b] below meth c H locs cells slots Q (F0 m 584 ls []) := by
  obtain ⟨hx, hb, hr, hml, hown, hts0, hX, hbl, hlocks, hgv⟩ := hE.1
  have hts := hE.2.1
  have hown : s.vm.findClass RL = some m.cls := hown
  have hb : c.code = cL_law := hb
  have hbA : ¬ A0 s b := Nat.not_le.mpr hbl
  refine lv_aload_n hx hb dL_law_584 rfl (lv_at hl 2 rfl) ?_
  refine lv_aload_n hx hb dL_law_585 rfl (lv_at hl 3 rfl) ?_
  refine lv_iload_n hx hb dL_law_586 rfl (lv_at hl 0 rfl) ?_
  refine lv_iconst (v := nI 1) hx hb dL_law_587 (by decide) ?_
  refine lv_iadd hx hb dL_law_588 ?_
  rw [nI_p]
  refine va_sld hx hb hX hbl hbA hS (in_p hi hL (k := 1) (by decide)) dL_law_589 ?_
  refine lv_aload_n hx hb dL_law_590 rfl (lv_at hl 3 rfl) ?_
  refine lv_iload_n hx hb dL_law_591 rfl (lv_at hl 0 rfl) ?_
  refine lv_iconst (v := nI 2) hx hb dL_law_592 (by decide) ?_
  refine lv_iadd hx hb dL_law_593 ?_
  rw [nI_p]
  refine va_sld hx hb hX hbl hbA hS (in_p hi hL (k := 2) (by decide)) dL_law_594 ?_
  refine lv_aload_n hx hb dL_law_595 rfl (lv_at hl 3 rfl) ?_
  refine lv_iload_n hx hb dL_law_596 rfl (lv_at hl 0 rfl) ?_
  refine lv_iconst (v := nI 3) hx hb dL_law_597 (by decide) ?_
  refine lv_iadd hx hb dL_law_598 ?_
  rw [nI_p]
  refine va_sld hx hb hX hbl hbA hS (in_p hi hL (k := 3) (by decide)) dL_law_599 ?_
  obtain ⟨rr, a2, hA2, hwc, hwm⟩ := p_wish hA hC hM (xs (nI (i + 1)).toNatClampNeg) (xs (nI (i + 2)).toNatClampNeg) (xs (nI (i + 3)).toNatClampNeg)
  refine lc_I (Z := ZC) (Z2 := ZM) (As := [.int (xs (nI (i + 1)).toNatClampNeg), .int (xs (nI (i + 2)).toNatClampNeg), .int (xs (nI (i + 3)).toNatClampNeg)]) (rest := []) ⟨hx, hb, hml, hown, hts⟩ (cwV 3 hts gL_law_X5_wish rfl rfl rfl hd_X5_wish ⟨Nat.le_of_ble_eq_true rfl, Nat.le_of_ble_eq_true rfl⟩) (mt_X5_wish l hE.2.2.1.1 σ _ (xs (nI (i + 1)).toNatClampNeg) (xs (nI (i + 2)).toNatClampNeg) (xs (nI (i + 3)).toNatClampNeg) _ hwc) (lrc_5 hE.2.2.1.1 hE.2.2.2.1.1 hP) hE.2.2.2.1.1 hE.2.2.2.2.1 hP hP2 hS rfl hl.1 rfl (Nat.le_of_ble_eq_true rfl) dL_law_600 ⟨hcl, hsl⟩ (fun r1 σ2 H locs hr1 hP hP2 hS => ?_)
  refine lv_aload_n hx hb dL_law_603 rfl (lv_at hl 1 rfl) ?_
  refine lv_aload_n hx hb dL_law_604 rfl (lv_at hl 3 rfl) ?_
  refine lv_iload_n hx hb dL_law_605 rfl (lv_at hl 0 rfl) ?_
  refine lv_iconst (v := nI 1) hx hb dL_law_606 (by decide) ?_
  refine lv_iadd hx hb dL_law_607 ?_
  rw [nI_p]
  refine va_sld hx hb hX hbl hbA hS (in_p hi hL (k := 1) (by decide)) dL_law_608 ?_
  refine lv_aload_n hx hb dL_law_609 rfl (lv_at hl 3 rfl) ?_
  refine lv_iload_n hx hb dL_law_610 rfl (lv_at hl 0 rfl) ?_
  refine lv_iconst (v := nI 2) hx hb dL_law_611 (by decide) ?_
  refine lv_iadd hx hb dL_law_612 ?_
  rw [nI_p]
  refine va_sld hx hb hX hbl hbA hS (in_p hi hL (k := 2) (by decide)) dL_law_613 ?_
  refine lv_aload_n hx hb dL_law_614 rfl (lv_at hl 3 rfl) ?_
  refine lv_iload_n hx hb dL_law_615 rfl (lv_at hl 0 rfl) ?_
  refine lv_iconst (v := nI 3) hx hb dL_law_616 (by decide) ?_
  refine lv_iadd hx hb dL_law_617 ?_
  rw [nI_p]
  refine va_sld hx hb hX hbl hbA hS (in_p hi hL (k := 3) (by decide)) dL_law_618 ?_
  refine lc_I (Z := ZM) (Z2 := ZC) (As := [.int (xs (nI (i + 1)).toNatClampNeg), .int (xs (nI (i + 2)).toNatClampNeg), .int (xs (nI (i + 3)).toNatClampNeg)]) (rest := [.int r1]) ⟨hx, hb, hml, hown, hts⟩ (cwV 3 hts gL_law_X6_wish rfl rfl rfl hd_X6_wish ⟨Nat.le_of_ble_eq_true rfl, Nat.le_of_ble_eq_true rfl⟩) (mt_X6_wish l hE.2.2.1.2 τ _ (xs (nI (i + 1)).toNatClampNeg) (xs (nI (i + 2)).toNatClampNeg) (xs (nI (i + 3)).toNatClampNeg) _ hwm) (lrc_6 hE.2.2.1.2 hE.2.2.2.1.2 hP2) hE.2.2.2.1.2 hE.2.2.2.2.2 hP2 hP hS rfl hl.1 rfl (Nat.le_of_ble_eq_true rfl) dL_law_619 ⟨hcl, hsl⟩ (fun r2 τ2 H locs hr2 hP2 hP hS => ?_)
  refine lv_icmp_eq (tgt := 1183) hx hb dL_law_622 (by decide) (fun _ => hk _ _ _ _ _ hA2 hr1.1 hr2.1 hP hP2 hS) (fun h9 => absurd (hr1.2.trans hr2.2.symm) h9)
set_option maxHeartbeats 4000000 in
set_option maxRecDepth 100000 in
theorem law_c15 {p : Program} {l : Launch} {e : Env} {s : State} {m : MethodId} {below : List Frame} {meth : Method} {c : Code} {b L : Nat} {xs : Nat → Int32} {ZC ZM : ZW} (hE : LE p s m meth c b L xs ZC ZM) {i : Nat} (hi : i + 6 ≤ L) (hL : L ≤ 3072) {Q : State → Prop} {cells slots : Nat} (hcl : cells ≤ room_1.cells) (hsl : slots ≤ room_1.slots) {σ τ : SS} {a : AT} {H : Heap} {locs : List Loc} {ls : Array Slot} (hA : AB a) (hC : CI σ a) (hM : MI τ a) (hP : PZ ZC σ H) (hP2 : PZ ZM τ H) (hS : va_S (A0 s) s.heap H locs) (hl : lv_has ls 4 (lvL b i ZC ZM)) (hk : ∀ (σ τ : SS) (a : AT) (H : Heap) (locs : List Loc), AB a → CI σ a → MI τ a → PZ ZC σ H → PZ ZM τ H → va_S (A0 s) s.heap H locs → W p l e room_1 s m #[Value.ref b] below meth c H locs cells slots Q (F0 m 1183 ls [])) : W p l e room_1 s m #[Value.ref b] below meth c H locs cells slots Q (F0 m 627 ls []) := by
  obtain ⟨hx, hb, hr, hml, hown, hts0, hX, hbl, hlocks, hgv⟩ := hE.1
  have hts := hE.2.1
  have hown : s.vm.findClass RL = some m.cls := hown
  have hb : c.code = cL_law := hb
  have hbA : ¬ A0 s b := Nat.not_le.mpr hbl
  refine lv_aload_n hx hb dL_law_627 rfl (lv_at hl 2 rfl) ?_
  refine lv_aload_n hx hb dL_law_628 rfl (lv_at hl 3 rfl) ?_
  refine lv_iload_n hx hb dL_law_629 rfl (lv_at hl 0 rfl) ?_
  refine lv_iconst (v := nI 1) hx hb dL_law_630 (by decide) ?_
  refine lv_iadd hx hb dL_law_631 ?_
  rw [nI_p]
  refine va_sld hx hb hX hbl hbA hS (in_p hi hL (k := 1) (by decide)) dL_law_632 ?_
  refine lv_aload_n hx hb dL_law_633 rfl (lv_at hl 3 rfl) ?_
  refine lv_iload_n hx hb dL_law_634 rfl (lv_at hl 0 rfl) ?_
  refine lv_iconst (v := nI 2) hx hb dL_law_635 (by decide) ?_
  refine lv_iadd hx hb dL_law_636 ?_
  rw [nI_p]
  refine va_sld hx hb hX hbl hbA hS (in_p hi hL (k := 2) (by decide)) dL_law_637 ?_
  obtain ⟨rr, a2, hA2, hwc, hwm⟩ := p_info hA hC hM (xs (nI (i + 1)).toNatClampNeg) (xs (nI (i + 2)).toNatClampNeg)
  refine lc_I (Z := ZC) (Z2 := ZM) (As := [.int (xs (nI (i + 1)).toNatClampNeg), .int (xs (nI (i + 2)).toNatClampNeg)]) (rest := []) ⟨hx, hb, hml, hown, hts⟩ (cwV 2 hts gL_law_X5_info rfl rfl rfl hd_X5_info ⟨Nat.le_of_ble_eq_true rfl, Nat.le_of_ble_eq_true rfl⟩) (mt_X5_info l hE.2.2.1.1 σ _ (xs (nI (i + 1)).toNatClampNeg) (xs (nI (i + 2)).toNatClampNeg) _ hwc) (lrc_5 hE.2.2.1.1 hE.2.2.2.1.1 hP) hE.2.2.2.1.1 hE.2.2.2.2.1 hP hP2 hS rfl hl.1 rfl (Nat.le_of_ble_eq_true rfl) dL_law_638 ⟨hcl, hsl⟩ (fun r1 σ2 H locs hr1 hP hP2 hS => ?_)
  refine lv_aload_n hx hb dL_law_641 rfl (lv_at hl 1 rfl) ?_
  refine lv_aload_n hx hb dL_law_642 rfl (lv_at hl 3 rfl) ?_
  refine lv_iload_n hx hb dL_law_643 rfl (lv_at hl 0 rfl) ?_
  refine lv_iconst (v := nI 1) hx hb dL_law_644 (by decide) ?_
  refine lv_iadd hx hb dL_law_645 ?_
  rw [nI_p]
  refine va_sld hx hb hX hbl hbA hS (in_p hi hL (k := 1) (by decide)) dL_law_646 ?_
  refine lv_aload_n hx hb dL_law_647 rfl (lv_at hl 3 rfl) ?_
  refine lv_iload_n hx hb dL_law_648 rfl (lv_at hl 0 rfl) ?_
  refine lv_iconst (v := nI 2) hx hb dL_law_649 (by decide) ?_
  refine lv_iadd hx hb dL_law_650 ?_
  rw [nI_p]
  refine va_sld hx hb hX hbl hbA hS (in_p hi hL (k := 2) (by decide)) dL_law_651 ?_
  refine lc_I (Z := ZM) (Z2 := ZC) (As := [.int (xs (nI (i + 1)).toNatClampNeg), .int (xs (nI (i + 2)).toNatClampNeg)]) (rest := [.int r1]) ⟨hx, hb, hml, hown, hts⟩ (cwV 2 hts gL_law_X6_info rfl rfl rfl hd_X6_info ⟨Nat.le_of_ble_eq_true rfl, Nat.le_of_ble_eq_true rfl⟩) (mt_X6_info l hE.2.2.1.2 τ _ (xs (nI (i + 1)).toNatClampNeg) (xs (nI (i + 2)).toNatClampNeg) _ hwm) (lrc_6 hE.2.2.1.2 hE.2.2.2.1.2 hP2) hE.2.2.2.1.2 hE.2.2.2.2.2 hP2 hP hS rfl hl.1 rfl (Nat.le_of_ble_eq_true rfl) dL_law_652 ⟨hcl, hsl⟩ (fun r2 τ2 H locs hr2 hP2 hP hS => ?_)
  refine lv_icmp_eq (tgt := 1183) hx hb dL_law_655 (by decide) (fun _ => hk _ _ _ _ _ hA2 hr1.1 hr2.1 hP hP2 hS) (fun h9 => absurd (hr1.2.trans hr2.2.symm) h9)
set_option maxHeartbeats 4000000 in
set_option maxRecDepth 100000 in
theorem law_c16 {p : Program} {l : Launch} {e : Env} {s : State} {m : MethodId} {below : List Frame} {meth : Method} {c : Code} {b L : Nat} {xs : Nat → Int32} {ZC ZM : ZW} (hE : LE p s m meth c b L xs ZC ZM) {i : Nat} (hi : i + 6 ≤ L) (hL : L ≤ 3072) {Q : State → Prop} {cells slots : Nat} (hcl : cells ≤ room_1.cells) (hsl : slots ≤ room_1.slots) {σ τ : SS} {a : AT} {H : Heap} {locs : List Loc} {ls : Array Slot} (hA : AB a) (hC : CI σ a) (hM : MI τ a) (hP : PZ ZC σ H) (hP2 : PZ ZM τ H) (hS : va_S (A0 s) s.heap H locs) (hl : lv_has ls 4 (lvL b i ZC ZM)) (hk : ∀ (σ τ : SS) (a : AT) (H : Heap) (locs : List Loc), AB a → CI σ a → MI τ a → PZ ZC σ H → PZ ZM τ H → va_S (A0 s) s.heap H locs → W p l e room_1 s m #[Value.ref b] below meth c H locs cells slots Q (F0 m 1183 ls [])) : W p l e room_1 s m #[Value.ref b] below meth c H locs cells slots Q (F0 m 660 ls []) := by
  obtain ⟨hx, hb, hr, hml, hown, hts0, hX, hbl, hlocks, hgv⟩ := hE.1
  have hts := hE.2.1
  have hown : s.vm.findClass RL = some m.cls := hown
  have hb : c.code = cL_law := hb
  have hbA : ¬ A0 s b := Nat.not_le.mpr hbl
  refine lv_aload_n hx hb dL_law_660 rfl (lv_at hl 2 rfl) ?_
  refine lv_aload_n hx hb dL_law_661 rfl (lv_at hl 3 rfl) ?_
  refine lv_iload_n hx hb dL_law_662 rfl (lv_at hl 0 rfl) ?_
  refine lv_iconst (v := nI 1) hx hb dL_law_663 (by decide) ?_
  refine lv_iadd hx hb dL_law_664 ?_
  rw [nI_p]
  refine va_sld hx hb hX hbl hbA hS (in_p hi hL (k := 1) (by decide)) dL_law_665 ?_
  refine lv_aload_n hx hb dL_law_666 rfl (lv_at hl 3 rfl) ?_
  refine lv_iload_n hx hb dL_law_667 rfl (lv_at hl 0 rfl) ?_
  refine lv_iconst (v := nI 2) hx hb dL_law_668 (by decide) ?_
  refine lv_iadd hx hb dL_law_669 ?_
  rw [nI_p]
  refine va_sld hx hb hX hbl hbA hS (in_p hi hL (k := 2) (by decide)) dL_law_670 ?_
  refine lv_aload_n hx hb dL_law_671 rfl (lv_at hl 3 rfl) ?_
  refine lv_iload_n hx hb dL_law_672 rfl (lv_at hl 0 rfl) ?_
  refine lv_iconst (v := nI 3) hx hb dL_law_673 (by decide) ?_
  refine lv_iadd hx hb dL_law_674 ?_
  rw [nI_p]
  refine va_sld hx hb hX hbl hbA hS (in_p hi hL (k := 3) (by decide)) dL_law_675 ?_
  obtain ⟨rr, a2, hA2, hwc, hwm⟩ := p_ledger hA hC hM (xs (nI (i + 1)).toNatClampNeg) (xs (nI (i + 2)).toNatClampNeg) (xs (nI (i + 3)).toNatClampNeg)
  refine lc_I (Z := ZC) (Z2 := ZM) (As := [.int (xs (nI (i + 1)).toNatClampNeg), .int (xs (nI (i + 2)).toNatClampNeg), .int (xs (nI (i + 3)).toNatClampNeg)]) (rest := []) ⟨hx, hb, hml, hown, hts⟩ (cwV 3 hts gL_law_X5_ledger rfl rfl rfl hd_X5_ledger ⟨Nat.le_of_ble_eq_true rfl, Nat.le_of_ble_eq_true rfl⟩) (mt_X5_ledger l hE.2.2.1.1 σ _ (xs (nI (i + 1)).toNatClampNeg) (xs (nI (i + 2)).toNatClampNeg) (xs (nI (i + 3)).toNatClampNeg) _ hwc) (lrc_5 hE.2.2.1.1 hE.2.2.2.1.1 hP) hE.2.2.2.1.1 hE.2.2.2.2.1 hP hP2 hS rfl hl.1 rfl (Nat.le_of_ble_eq_true rfl) dL_law_676 ⟨hcl, hsl⟩ (fun r1 σ2 H locs hr1 hP hP2 hS => ?_)
  refine lv_aload_n hx hb dL_law_679 rfl (lv_at hl 1 rfl) ?_
  refine lv_aload_n hx hb dL_law_680 rfl (lv_at hl 3 rfl) ?_
  refine lv_iload_n hx hb dL_law_681 rfl (lv_at hl 0 rfl) ?_
  refine lv_iconst (v := nI 1) hx hb dL_law_682 (by decide) ?_
  refine lv_iadd hx hb dL_law_683 ?_
  rw [nI_p]
  refine va_sld hx hb hX hbl hbA hS (in_p hi hL (k := 1) (by decide)) dL_law_684 ?_
  refine lv_aload_n hx hb dL_law_685 rfl (lv_at hl 3 rfl) ?_
  refine lv_iload_n hx hb dL_law_686 rfl (lv_at hl 0 rfl) ?_
  refine lv_iconst (v := nI 2) hx hb dL_law_687 (by decide) ?_
  refine lv_iadd hx hb dL_law_688 ?_
  rw [nI_p]
  refine va_sld hx hb hX hbl hbA hS (in_p hi hL (k := 2) (by decide)) dL_law_689 ?_
  refine lv_aload_n hx hb dL_law_690 rfl (lv_at hl 3 rfl) ?_
  refine lv_iload_n hx hb dL_law_691 rfl (lv_at hl 0 rfl) ?_
  refine lv_iconst (v := nI 3) hx hb dL_law_692 (by decide) ?_
  refine lv_iadd hx hb dL_law_693 ?_
  rw [nI_p]
  refine va_sld hx hb hX hbl hbA hS (in_p hi hL (k := 3) (by decide)) dL_law_694 ?_
  refine lc_I (Z := ZM) (Z2 := ZC) (As := [.int (xs (nI (i + 1)).toNatClampNeg), .int (xs (nI (i + 2)).toNatClampNeg), .int (xs (nI (i + 3)).toNatClampNeg)]) (rest := [.int r1]) ⟨hx, hb, hml, hown, hts⟩ (cwV 3 hts gL_law_X6_ledger rfl rfl rfl hd_X6_ledger ⟨Nat.le_of_ble_eq_true rfl, Nat.le_of_ble_eq_true rfl⟩) (mt_X6_ledger l hE.2.2.1.2 τ _ (xs (nI (i + 1)).toNatClampNeg) (xs (nI (i + 2)).toNatClampNeg) (xs (nI (i + 3)).toNatClampNeg) _ hwm) (lrc_6 hE.2.2.1.2 hE.2.2.2.1.2 hP2) hE.2.2.2.1.2 hE.2.2.2.2.2 hP2 hP hS rfl hl.1 rfl (Nat.le_of_ble_eq_true rfl) dL_law_695 ⟨hcl, hsl⟩ (fun r2 τ2 H locs hr2 hP2 hP hS => ?_)
  refine lv_icmp_eq (tgt := 1183) hx hb dL_law_698 (by decide) (fun _ => hk _ _ _ _ _ hA2 hr1.1 hr2.1 hP hP2 hS) (fun h9 => absurd (hr1.2.trans hr2.2.symm) h9)
set_option maxHeartbeats 4000000 in
set_option maxRecDepth 100000 in
theorem law_c17 {p : Program} {l : Launch} {e : Env} {s : State} {m : MethodId} {below : List Frame} {meth : Method} {c : Code} {b L : Nat} {xs : Nat → Int32} {ZC ZM : ZW} (hE : LE p s m meth c b L xs ZC ZM) {i : Nat} (hi : i + 6 ≤ L) (hL : L ≤ 3072) {Q : State → Prop} {cells slots : Nat} (hcl : cells ≤ room_1.cells) (hsl : slots ≤ room_1.slots) {σ τ : SS} {a : AT} {H : Heap} {locs : List Loc} {ls : Array Slot} (hA : AB a) (hC : CI σ a) (hM : MI τ a) (hP : PZ ZC σ H) (hP2 : PZ ZM τ H) (hS : va_S (A0 s) s.heap H locs) (hl : lv_has ls 4 (lvL b i ZC ZM)) (hk : ∀ (σ τ : SS) (a : AT) (H : Heap) (locs : List Loc), AB a → CI σ a → MI τ a → PZ ZC σ H → PZ ZM τ H → va_S (A0 s) s.heap H locs → W p l e room_1 s m #[Value.ref b] below meth c H locs cells slots Q (F0 m 1183 ls [])) : W p l e room_1 s m #[Value.ref b] below meth c H locs cells slots Q (F0 m 703 ls []) := by
  obtain ⟨hx, hb, hr, hml, hown, hts0, hX, hbl, hlocks, hgv⟩ := hE.1
  have hts := hE.2.1
  have hown : s.vm.findClass RL = some m.cls := hown
  have hb : c.code = cL_law := hb
  have hbA : ¬ A0 s b := Nat.not_le.mpr hbl
  refine lv_aload_n hx hb dL_law_703 rfl (lv_at hl 2 rfl) ?_
  refine lv_aload_n hx hb dL_law_704 rfl (lv_at hl 3 rfl) ?_
  refine lv_iload_n hx hb dL_law_705 rfl (lv_at hl 0 rfl) ?_
  refine lv_iconst (v := nI 1) hx hb dL_law_706 (by decide) ?_
  refine lv_iadd hx hb dL_law_707 ?_
  rw [nI_p]
  refine va_sld hx hb hX hbl hbA hS (in_p hi hL (k := 1) (by decide)) dL_law_708 ?_
  refine lv_aload_n hx hb dL_law_709 rfl (lv_at hl 3 rfl) ?_
  refine lv_iload_n hx hb dL_law_710 rfl (lv_at hl 0 rfl) ?_
  refine lv_iconst (v := nI 2) hx hb dL_law_711 (by decide) ?_
  refine lv_iadd hx hb dL_law_712 ?_
  rw [nI_p]
  refine va_sld hx hb hX hbl hbA hS (in_p hi hL (k := 2) (by decide)) dL_law_713 ?_
  obtain ⟨rr, a2, hA2, hwc, hwm⟩ := p_limit hA hC hM (xs (nI (i + 1)).toNatClampNeg) (xs (nI (i + 2)).toNatClampNeg)
  refine lc_I (Z := ZC) (Z2 := ZM) (As := [.int (xs (nI (i + 1)).toNatClampNeg), .int (xs (nI (i + 2)).toNatClampNeg)]) (rest := []) ⟨hx, hb, hml, hown, hts⟩ (cwV 2 hts gL_law_X5_limit rfl rfl rfl hd_X5_limit ⟨Nat.le_of_ble_eq_true rfl, Nat.le_of_ble_eq_true rfl⟩) (mt_X5_limit l hE.2.2.1.1 σ _ (xs (nI (i + 1)).toNatClampNeg) (xs (nI (i + 2)).toNatClampNeg) _ hwc) (lrc_5 hE.2.2.1.1 hE.2.2.2.1.1 hP) hE.2.2.2.1.1 hE.2.2.2.2.1 hP hP2 hS rfl hl.1 rfl (Nat.le_of_ble_eq_true rfl) dL_law_714 ⟨hcl, hsl⟩ (fun r1 σ2 H locs hr1 hP hP2 hS => ?_)
  refine lv_aload_n hx hb dL_law_717 rfl (lv_at hl 1 rfl) ?_
  refine lv_aload_n hx hb dL_law_718 rfl (lv_at hl 3 rfl) ?_
  refine lv_iload_n hx hb dL_law_719 rfl (lv_at hl 0 rfl) ?_
  refine lv_iconst (v := nI 1) hx hb dL_law_720 (by decide) ?_
  refine lv_iadd hx hb dL_law_721 ?_
  rw [nI_p]
  refine va_sld hx hb hX hbl hbA hS (in_p hi hL (k := 1) (by decide)) dL_law_722 ?_
  refine lv_aload_n hx hb dL_law_723 rfl (lv_at hl 3 rfl) ?_
  refine lv_iload_n hx hb dL_law_724 rfl (lv_at hl 0 rfl) ?_
  refine lv_iconst (v := nI 2) hx hb dL_law_725 (by decide) ?_
  refine lv_iadd hx hb dL_law_726 ?_
  rw [nI_p]
  refine va_sld hx hb hX hbl hbA hS (in_p hi hL (k := 2) (by decide)) dL_law_727 ?_
  refine lc_I (Z := ZM) (Z2 := ZC) (As := [.int (xs (nI (i + 1)).toNatClampNeg), .int (xs (nI (i + 2)).toNatClampNeg)]) (rest := [.int r1]) ⟨hx, hb, hml, hown, hts⟩ (cwV 2 hts gL_law_X6_limit rfl rfl rfl hd_X6_limit ⟨Nat.le_of_ble_eq_true rfl, Nat.le_of_ble_eq_true rfl⟩) (mt_X6_limit l hE.2.2.1.2 τ _ (xs (nI (i + 1)).toNatClampNeg) (xs (nI (i + 2)).toNatClampNeg) _ hwm) (lrc_6 hE.2.2.1.2 hE.2.2.2.1.2 hP2) hE.2.2.2.1.2 hE.2.2.2.2.2 hP2 hP hS rfl hl.1 rfl (Nat.le_of_ble_eq_true rfl) dL_law_728 ⟨hcl, hsl⟩ (fun r2 τ2 H locs hr2 hP2 hP hS => ?_)
  refine lv_icmp_eq (tgt := 1183) hx hb dL_law_731 (by decide) (fun _ => hk _ _ _ _ _ hA2 hr1.1 hr2.1 hP hP2 hS) (fun h9 => absurd (hr1.2.trans hr2.2.symm) h9)
set_option maxHeartbeats 4000000 in
set_option maxRecDepth 100000 in
theorem law_c18 {p : Program} {l : Launch} {e : Env} {s : State} {m : MethodId} {below : List Frame} {meth : Method} {c : Code} {b L : Nat} {xs : Nat → Int32} {ZC ZM : ZW} (hE : LE p s m meth c b L xs ZC ZM) {i : Nat} (hi : i + 6 ≤ L) (hL : L ≤ 3072) {Q : State → Prop} {cells slots : Nat} (hcl : cells ≤ room_1.cells) (hsl : slots ≤ room_1.slots) {σ τ : SS} {a : AT} {H : Heap} {locs : List Loc} {ls : Array Slot} (hA : AB a) (hC : CI σ a) (hM : MI τ a) (hP : PZ ZC σ H) (hP2 : PZ ZM τ H) (hS : va_S (A0 s) s.heap H locs) (hl : lv_has ls 4 (lvL b i ZC ZM)) (hk : ∀ (σ τ : SS) (a : AT) (H : Heap) (locs : List Loc), AB a → CI σ a → MI τ a → PZ ZC σ H → PZ ZM τ H → va_S (A0 s) s.heap H locs → W p l e room_1 s m #[Value.ref b] below meth c H locs cells slots Q (F0 m 1183 ls [])) : W p l e room_1 s m #[Value.ref b] below meth c H locs cells slots Q (F0 m 736 ls []) := by
  obtain ⟨hx, hb, hr, hml, hown, hts0, hX, hbl, hlocks, hgv⟩ := hE.1
  have hts := hE.2.1
  have hown : s.vm.findClass RL = some m.cls := hown
  have hb : c.code = cL_law := hb
  have hbA : ¬ A0 s b := Nat.not_le.mpr hbl
  refine lv_aload_n hx hb dL_law_736 rfl (lv_at hl 2 rfl) ?_
  refine lv_aload_n hx hb dL_law_737 rfl (lv_at hl 3 rfl) ?_
  refine lv_iload_n hx hb dL_law_738 rfl (lv_at hl 0 rfl) ?_
  refine lv_iconst (v := nI 1) hx hb dL_law_739 (by decide) ?_
  refine lv_iadd hx hb dL_law_740 ?_
  rw [nI_p]
  refine va_sld hx hb hX hbl hbA hS (in_p hi hL (k := 1) (by decide)) dL_law_741 ?_
  obtain ⟨rr, a2, hA2, hwc, hwm⟩ := p_doubts hA hC hM (xs (nI (i + 1)).toNatClampNeg)
  refine lc_I (Z := ZC) (Z2 := ZM) (As := [.int (xs (nI (i + 1)).toNatClampNeg)]) (rest := []) ⟨hx, hb, hml, hown, hts⟩ (cwV 1 hts gL_law_X5_doubts rfl rfl rfl hd_X5_doubts ⟨Nat.le_of_ble_eq_true rfl, Nat.le_of_ble_eq_true rfl⟩) (mt_X5_doubts l hE.2.2.1.1 σ _ (xs (nI (i + 1)).toNatClampNeg) _ hwc) (lrc_5 hE.2.2.1.1 hE.2.2.2.1.1 hP) hE.2.2.2.1.1 hE.2.2.2.2.1 hP hP2 hS rfl hl.1 rfl (Nat.le_of_ble_eq_true rfl) dL_law_742 ⟨hcl, hsl⟩ (fun r1 σ2 H locs hr1 hP hP2 hS => ?_)
  refine lv_aload_n hx hb dL_law_745 rfl (lv_at hl 1 rfl) ?_
  refine lv_aload_n hx hb dL_law_746 rfl (lv_at hl 3 rfl) ?_
  refine lv_iload_n hx hb dL_law_747 rfl (lv_at hl 0 rfl) ?_
  refine lv_iconst (v := nI 1) hx hb dL_law_748 (by decide) ?_
  refine lv_iadd hx hb dL_law_749 ?_
  rw [nI_p]
  refine va_sld hx hb hX hbl hbA hS (in_p hi hL (k := 1) (by decide)) dL_law_750 ?_
  refine lc_I (Z := ZM) (Z2 := ZC) (As := [.int (xs (nI (i + 1)).toNatClampNeg)]) (rest := [.int r1]) ⟨hx, hb, hml, hown, hts⟩ (cwV 1 hts gL_law_X6_doubts rfl rfl rfl hd_X6_doubts ⟨Nat.le_of_ble_eq_true rfl, Nat.le_of_ble_eq_true rfl⟩) (mt_X6_doubts l hE.2.2.1.2 τ _ (xs (nI (i + 1)).toNatClampNeg) _ hwm) (lrc_6 hE.2.2.1.2 hE.2.2.2.1.2 hP2) hE.2.2.2.1.2 hE.2.2.2.2.2 hP2 hP hS rfl hl.1 rfl (Nat.le_of_ble_eq_true rfl) dL_law_751 ⟨hcl, hsl⟩ (fun r2 τ2 H locs hr2 hP2 hP hS => ?_)
  refine lv_icmp_eq (tgt := 1183) hx hb dL_law_754 (by decide) (fun _ => hk _ _ _ _ _ hA2 hr1.1 hr2.1 hP hP2 hS) (fun h9 => absurd (hr1.2.trans hr2.2.symm) h9)
set_option maxHeartbeats 4000000 in
set_option maxRecDepth 100000 in
theorem law_c19 {p : Program} {l : Launch} {e : Env} {s : State} {m : MethodId} {below : List Frame} {meth : Method} {c : Code} {b L : Nat} {xs : Nat → Int32} {ZC ZM : ZW} (hE : LE p s m meth c b L xs ZC ZM) {i : Nat} (hi : i + 6 ≤ L) (hL : L ≤ 3072) {Q : State → Prop} {cells slots : Nat} (hcl : cells ≤ room_1.cells) (hsl : slots ≤ room_1.slots) {σ τ : SS} {a : AT} {H : Heap} {locs : List Loc} {ls : Array Slot} (hA : AB a) (hC : CI σ a) (hM : MI τ a) (hP : PZ ZC σ H) (hP2 : PZ ZM τ H) (hS : va_S (A0 s) s.heap H locs) (hl : lv_has ls 4 (lvL b i ZC ZM)) (hk : ∀ (σ τ : SS) (a : AT) (H : Heap) (locs : List Loc), AB a → CI σ a → MI τ a → PZ ZC σ H → PZ ZM τ H → va_S (A0 s) s.heap H locs → W p l e room_1 s m #[Value.ref b] below meth c H locs cells slots Q (F0 m 1183 ls [])) : W p l e room_1 s m #[Value.ref b] below meth c H locs cells slots Q (F0 m 759 ls []) := by
  obtain ⟨hx, hb, hr, hml, hown, hts0, hX, hbl, hlocks, hgv⟩ := hE.1
  have hts := hE.2.1
  have hown : s.vm.findClass RL = some m.cls := hown
  have hb : c.code = cL_law := hb
  have hbA : ¬ A0 s b := Nat.not_le.mpr hbl
  refine lv_aload_n hx hb dL_law_759 rfl (lv_at hl 2 rfl) ?_
  refine lv_aload_n hx hb dL_law_760 rfl (lv_at hl 3 rfl) ?_
  refine lv_iload_n hx hb dL_law_761 rfl (lv_at hl 0 rfl) ?_
  refine lv_iconst (v := nI 1) hx hb dL_law_762 (by decide) ?_
  refine lv_iadd hx hb dL_law_763 ?_
  rw [nI_p]
  refine va_sld hx hb hX hbl hbA hS (in_p hi hL (k := 1) (by decide)) dL_law_764 ?_
  obtain ⟨rr, a2, hA2, hwc, hwm⟩ := p_noticed hA hC hM (xs (nI (i + 1)).toNatClampNeg)
  refine lc_I (Z := ZC) (Z2 := ZM) (As := [.int (xs (nI (i + 1)).toNatClampNeg)]) (rest := []) ⟨hx, hb, hml, hown, hts⟩ (cwV 1 hts gL_law_X5_noticed rfl rfl rfl hd_X5_noticed ⟨Nat.le_of_ble_eq_true rfl, Nat.le_of_ble_eq_true rfl⟩) (mt_X5_noticed l hE.2.2.1.1 σ _ (xs (nI (i + 1)).toNatClampNeg) _ hwc) (lrc_5 hE.2.2.1.1 hE.2.2.2.1.1 hP) hE.2.2.2.1.1 hE.2.2.2.2.1 hP hP2 hS rfl hl.1 rfl (Nat.le_of_ble_eq_true rfl) dL_law_765 ⟨hcl, hsl⟩ (fun r1 σ2 H locs hr1 hP hP2 hS => ?_)
  refine lv_aload_n hx hb dL_law_768 rfl (lv_at hl 1 rfl) ?_
  refine lv_aload_n hx hb dL_law_769 rfl (lv_at hl 3 rfl) ?_
  refine lv_iload_n hx hb dL_law_770 rfl (lv_at hl 0 rfl) ?_
  refine lv_iconst (v := nI 1) hx hb dL_law_771 (by decide) ?_
  refine lv_iadd hx hb dL_law_772 ?_
  rw [nI_p]
  refine va_sld hx hb hX hbl hbA hS (in_p hi hL (k := 1) (by decide)) dL_law_773 ?_
  refine lc_I (Z := ZM) (Z2 := ZC) (As := [.int (xs (nI (i + 1)).toNatClampNeg)]) (rest := [.int r1]) ⟨hx, hb, hml, hown, hts⟩ (cwV 1 hts gL_law_X6_noticed rfl rfl rfl hd_X6_noticed ⟨Nat.le_of_ble_eq_true rfl, Nat.le_of_ble_eq_true rfl⟩) (mt_X6_noticed l hE.2.2.1.2 τ _ (xs (nI (i + 1)).toNatClampNeg) _ hwm) (lrc_6 hE.2.2.1.2 hE.2.2.2.1.2 hP2) hE.2.2.2.1.2 hE.2.2.2.2.2 hP2 hP hS rfl hl.1 rfl (Nat.le_of_ble_eq_true rfl) dL_law_774 ⟨hcl, hsl⟩ (fun r2 τ2 H locs hr2 hP2 hP hS => ?_)
  refine lv_icmp_eq (tgt := 1183) hx hb dL_law_777 (by decide) (fun _ => hk _ _ _ _ _ hA2 hr1.1 hr2.1 hP hP2 hS) (fun h9 => absurd (hr1.2.trans hr2.2.symm) h9)
set_option maxHeartbeats 4000000 in
set_option maxRecDepth 100000 in
theorem law_c20 {p : Program} {l : Launch} {e : Env} {s : State} {m : MethodId} {below : List Frame} {meth : Method} {c : Code} {b L : Nat} {xs : Nat → Int32} {ZC ZM : ZW} (hE : LE p s m meth c b L xs ZC ZM) {i : Nat} (hi : i + 6 ≤ L) (hL : L ≤ 3072) {Q : State → Prop} {cells slots : Nat} (hcl : cells ≤ room_1.cells) (hsl : slots ≤ room_1.slots) {σ τ : SS} {a : AT} {H : Heap} {locs : List Loc} {ls : Array Slot} (hA : AB a) (hC : CI σ a) (hM : MI τ a) (hP : PZ ZC σ H) (hP2 : PZ ZM τ H) (hS : va_S (A0 s) s.heap H locs) (hl : lv_has ls 4 (lvL b i ZC ZM)) (hk : ∀ (σ τ : SS) (a : AT) (H : Heap) (locs : List Loc), AB a → CI σ a → MI τ a → PZ ZC σ H → PZ ZM τ H → va_S (A0 s) s.heap H locs → W p l e room_1 s m #[Value.ref b] below meth c H locs cells slots Q (F0 m 1183 ls [])) : W p l e room_1 s m #[Value.ref b] below meth c H locs cells slots Q (F0 m 782 ls []) := by
  obtain ⟨hx, hb, hr, hml, hown, hts0, hX, hbl, hlocks, hgv⟩ := hE.1
  have hts := hE.2.1
  have hown : s.vm.findClass RL = some m.cls := hown
  have hb : c.code = cL_law := hb
  have hbA : ¬ A0 s b := Nat.not_le.mpr hbl
  refine lv_aload_n hx hb dL_law_782 rfl (lv_at hl 2 rfl) ?_
  refine lv_aload_n hx hb dL_law_783 rfl (lv_at hl 3 rfl) ?_
  refine lv_iload_n hx hb dL_law_784 rfl (lv_at hl 0 rfl) ?_
  refine lv_iconst (v := nI 1) hx hb dL_law_785 (by decide) ?_
  refine lv_iadd hx hb dL_law_786 ?_
  rw [nI_p]
  refine va_sld hx hb hX hbl hbA hS (in_p hi hL (k := 1) (by decide)) dL_law_787 ?_
  refine lv_aload_n hx hb dL_law_788 rfl (lv_at hl 3 rfl) ?_
  refine lv_iload_n hx hb dL_law_789 rfl (lv_at hl 0 rfl) ?_
  refine lv_iconst (v := nI 2) hx hb dL_law_790 (by decide) ?_
  refine lv_iadd hx hb dL_law_791 ?_
  rw [nI_p]
  refine va_sld hx hb hX hbl hbA hS (in_p hi hL (k := 2) (by decide)) dL_law_792 ?_
  obtain ⟨rr, a2, hA2, hwc, hwm⟩ := p_least hA hC hM (xs (nI (i + 1)).toNatClampNeg) (xs (nI (i + 2)).toNatClampNeg)
  refine lc_I (Z := ZC) (Z2 := ZM) (As := [.int (xs (nI (i + 1)).toNatClampNeg), .int (xs (nI (i + 2)).toNatClampNeg)]) (rest := []) ⟨hx, hb, hml, hown, hts⟩ (cwV 2 hts gL_law_X5_least rfl rfl rfl hd_X5_least ⟨Nat.le_of_ble_eq_true rfl, Nat.le_of_ble_eq_true rfl⟩) (mt_X5_least l hE.2.2.1.1 σ _ (xs (nI (i + 1)).toNatClampNeg) (xs (nI (i + 2)).toNatClampNeg) _ hwc) (lrc_5 hE.2.2.1.1 hE.2.2.2.1.1 hP) hE.2.2.2.1.1 hE.2.2.2.2.1 hP hP2 hS rfl hl.1 rfl (Nat.le_of_ble_eq_true rfl) dL_law_793 ⟨hcl, hsl⟩ (fun r1 σ2 H locs hr1 hP hP2 hS => ?_)
  refine lv_aload_n hx hb dL_law_796 rfl (lv_at hl 1 rfl) ?_
  refine lv_aload_n hx hb dL_law_797 rfl (lv_at hl 3 rfl) ?_
  refine lv_iload_n hx hb dL_law_798 rfl (lv_at hl 0 rfl) ?_
  refine lv_iconst (v := nI 1) hx hb dL_law_799 (by decide) ?_
  refine lv_iadd hx hb dL_law_800 ?_
  rw [nI_p]
  refine va_sld hx hb hX hbl hbA hS (in_p hi hL (k := 1) (by decide)) dL_law_801 ?_
  refine lv_aload_n hx hb dL_law_802 rfl (lv_at hl 3 rfl) ?_
  refine lv_iload_n hx hb dL_law_803 rfl (lv_at hl 0 rfl) ?_
  refine lv_iconst (v := nI 2) hx hb dL_law_804 (by decide) ?_
  refine lv_iadd hx hb dL_law_805 ?_
  rw [nI_p]
  refine va_sld hx hb hX hbl hbA hS (in_p hi hL (k := 2) (by decide)) dL_law_806 ?_
  refine lc_I (Z := ZM) (Z2 := ZC) (As := [.int (xs (nI (i + 1)).toNatClampNeg), .int (xs (nI (i + 2)).toNatClampNeg)]) (rest := [.int r1]) ⟨hx, hb, hml, hown, hts⟩ (cwV 2 hts gL_law_X6_least rfl rfl rfl hd_X6_least ⟨Nat.le_of_ble_eq_true rfl, Nat.le_of_ble_eq_true rfl⟩) (mt_X6_least l hE.2.2.1.2 τ _ (xs (nI (i + 1)).toNatClampNeg) (xs (nI (i + 2)).toNatClampNeg) _ hwm) (lrc_6 hE.2.2.1.2 hE.2.2.2.1.2 hP2) hE.2.2.2.1.2 hE.2.2.2.2.2 hP2 hP hS rfl hl.1 rfl (Nat.le_of_ble_eq_true rfl) dL_law_807 ⟨hcl, hsl⟩ (fun r2 τ2 H locs hr2 hP2 hP hS => ?_)
  refine lv_icmp_eq (tgt := 1183) hx hb dL_law_810 (by decide) (fun _ => hk _ _ _ _ _ hA2 hr1.1 hr2.1 hP hP2 hS) (fun h9 => absurd (hr1.2.trans hr2.2.symm) h9)
set_option maxHeartbeats 4000000 in
set_option maxRecDepth 100000 in
theorem law_c21 {p : Program} {l : Launch} {e : Env} {s : State} {m : MethodId} {below : List Frame} {meth : Method} {c : Code} {b L : Nat} {xs : Nat → Int32} {ZC ZM : ZW} (hE : LE p s m meth c b L xs ZC ZM) {i : Nat} (hi : i + 6 ≤ L) (hL : L ≤ 3072) {Q : State → Prop} {cells slots : Nat} (hcl : cells ≤ room_1.cells) (hsl : slots ≤ room_1.slots) {σ τ : SS} {a : AT} {H : Heap} {locs : List Loc} {ls : Array Slot} (hA : AB a) (hC : CI σ a) (hM : MI τ a) (hP : PZ ZC σ H) (hP2 : PZ ZM τ H) (hS : va_S (A0 s) s.heap H locs) (hl : lv_has ls 4 (lvL b i ZC ZM)) (hk : ∀ (σ τ : SS) (a : AT) (H : Heap) (locs : List Loc), AB a → CI σ a → MI τ a → PZ ZC σ H → PZ ZM τ H → va_S (A0 s) s.heap H locs → W p l e room_1 s m #[Value.ref b] below meth c H locs cells slots Q (F0 m 1183 ls [])) : W p l e room_1 s m #[Value.ref b] below meth c H locs cells slots Q (F0 m 815 ls []) := by
  obtain ⟨hx, hb, hr, hml, hown, hts0, hX, hbl, hlocks, hgv⟩ := hE.1
  have hts := hE.2.1
  have hown : s.vm.findClass RL = some m.cls := hown
  have hb : c.code = cL_law := hb
  have hbA : ¬ A0 s b := Nat.not_le.mpr hbl
  refine lv_aload_n hx hb dL_law_815 rfl (lv_at hl 2 rfl) ?_
  refine lv_aload_n hx hb dL_law_816 rfl (lv_at hl 3 rfl) ?_
  refine lv_iload_n hx hb dL_law_817 rfl (lv_at hl 0 rfl) ?_
  refine lv_iconst (v := nI 1) hx hb dL_law_818 (by decide) ?_
  refine lv_iadd hx hb dL_law_819 ?_
  rw [nI_p]
  refine va_sld hx hb hX hbl hbA hS (in_p hi hL (k := 1) (by decide)) dL_law_820 ?_
  obtain ⟨rr, a2, hA2, hwc, hwm⟩ := p_longest hA hC hM (xs (nI (i + 1)).toNatClampNeg)
  refine lc_I (Z := ZC) (Z2 := ZM) (As := [.int (xs (nI (i + 1)).toNatClampNeg)]) (rest := []) ⟨hx, hb, hml, hown, hts⟩ (cwV 1 hts gL_law_X5_longest rfl rfl rfl hd_X5_longest ⟨Nat.le_of_ble_eq_true rfl, Nat.le_of_ble_eq_true rfl⟩) (mt_X5_longest l hE.2.2.1.1 σ _ (xs (nI (i + 1)).toNatClampNeg) _ hwc) (lrc_5 hE.2.2.1.1 hE.2.2.2.1.1 hP) hE.2.2.2.1.1 hE.2.2.2.2.1 hP hP2 hS rfl hl.1 rfl (Nat.le_of_ble_eq_true rfl) dL_law_821 ⟨hcl, hsl⟩ (fun r1 σ2 H locs hr1 hP hP2 hS => ?_)
  refine lv_aload_n hx hb dL_law_824 rfl (lv_at hl 1 rfl) ?_
  refine lv_aload_n hx hb dL_law_825 rfl (lv_at hl 3 rfl) ?_
  refine lv_iload_n hx hb dL_law_826 rfl (lv_at hl 0 rfl) ?_
  refine lv_iconst (v := nI 1) hx hb dL_law_827 (by decide) ?_
  refine lv_iadd hx hb dL_law_828 ?_
  rw [nI_p]
  refine va_sld hx hb hX hbl hbA hS (in_p hi hL (k := 1) (by decide)) dL_law_829 ?_
  refine lc_I (Z := ZM) (Z2 := ZC) (As := [.int (xs (nI (i + 1)).toNatClampNeg)]) (rest := [.int r1]) ⟨hx, hb, hml, hown, hts⟩ (cwV 1 hts gL_law_X6_longest rfl rfl rfl hd_X6_longest ⟨Nat.le_of_ble_eq_true rfl, Nat.le_of_ble_eq_true rfl⟩) (mt_X6_longest l hE.2.2.1.2 τ _ (xs (nI (i + 1)).toNatClampNeg) _ hwm) (lrc_6 hE.2.2.1.2 hE.2.2.2.1.2 hP2) hE.2.2.2.1.2 hE.2.2.2.2.2 hP2 hP hS rfl hl.1 rfl (Nat.le_of_ble_eq_true rfl) dL_law_830 ⟨hcl, hsl⟩ (fun r2 τ2 H locs hr2 hP2 hP hS => ?_)
  refine lv_icmp_eq (tgt := 1183) hx hb dL_law_833 (by decide) (fun _ => hk _ _ _ _ _ hA2 hr1.1 hr2.1 hP hP2 hS) (fun h9 => absurd (hr1.2.trans hr2.2.symm) h9)
set_option maxHeartbeats 4000000 in
set_option maxRecDepth 100000 in
theorem law_c22 {p : Program} {l : Launch} {e : Env} {s : State} {m : MethodId} {below : List Frame} {meth : Method} {c : Code} {b L : Nat} {xs : Nat → Int32} {ZC ZM : ZW} (hE : LE p s m meth c b L xs ZC ZM) {i : Nat} (hi : i + 6 ≤ L) (hL : L ≤ 3072) {Q : State → Prop} {cells slots : Nat} (hcl : cells ≤ room_1.cells) (hsl : slots ≤ room_1.slots) {σ τ : SS} {a : AT} {H : Heap} {locs : List Loc} {ls : Array Slot} (hA : AB a) (hC : CI σ a) (hM : MI τ a) (hP : PZ ZC σ H) (hP2 : PZ ZM τ H) (hS : va_S (A0 s) s.heap H locs) (hl : lv_has ls 4 (lvL b i ZC ZM)) (hk : ∀ (σ τ : SS) (a : AT) (H : Heap) (locs : List Loc), AB a → CI σ a → MI τ a → PZ ZC σ H → PZ ZM τ H → va_S (A0 s) s.heap H locs → W p l e room_1 s m #[Value.ref b] below meth c H locs cells slots Q (F0 m 1183 ls [])) : W p l e room_1 s m #[Value.ref b] below meth c H locs cells slots Q (F0 m 838 ls []) := by
  obtain ⟨hx, hb, hr, hml, hown, hts0, hX, hbl, hlocks, hgv⟩ := hE.1
  have hts := hE.2.1
  have hown : s.vm.findClass RL = some m.cls := hown
  have hb : c.code = cL_law := hb
  have hbA : ¬ A0 s b := Nat.not_le.mpr hbl
  refine lv_aload_n hx hb dL_law_838 rfl (lv_at hl 2 rfl) ?_
  obtain ⟨rr, a2, hA2, hwc, hwm⟩ := p_shared hA hC hM
  refine lc_I (Z := ZC) (Z2 := ZM) (As := []) (rest := []) ⟨hx, hb, hml, hown, hts⟩ (cwV 0 hts gL_law_X5_shared rfl rfl rfl hd_X5_shared ⟨Nat.le_of_ble_eq_true rfl, Nat.le_of_ble_eq_true rfl⟩) (mt_X5_shared l hE.2.2.1.1 σ _ _ hwc) (lrc_5 hE.2.2.1.1 hE.2.2.2.1.1 hP) hE.2.2.2.1.1 hE.2.2.2.2.1 hP hP2 hS rfl hl.1 rfl (Nat.le_of_ble_eq_true rfl) dL_law_839 ⟨hcl, hsl⟩ (fun r1 σ2 H locs hr1 hP hP2 hS => ?_)
  refine lv_aload_n hx hb dL_law_842 rfl (lv_at hl 1 rfl) ?_
  refine lc_I (Z := ZM) (Z2 := ZC) (As := []) (rest := [.int r1]) ⟨hx, hb, hml, hown, hts⟩ (cwV 0 hts gL_law_X6_shared rfl rfl rfl hd_X6_shared ⟨Nat.le_of_ble_eq_true rfl, Nat.le_of_ble_eq_true rfl⟩) (mt_X6_shared l hE.2.2.1.2 τ _ _ hwm) (lrc_6 hE.2.2.1.2 hE.2.2.2.1.2 hP2) hE.2.2.2.1.2 hE.2.2.2.2.2 hP2 hP hS rfl hl.1 rfl (Nat.le_of_ble_eq_true rfl) dL_law_843 ⟨hcl, hsl⟩ (fun r2 τ2 H locs hr2 hP2 hP hS => ?_)
  refine lv_icmp_eq (tgt := 1183) hx hb dL_law_846 (by decide) (fun _ => hk _ _ _ _ _ hA2 hr1.1 hr2.1 hP hP2 hS) (fun h9 => absurd (hr1.2.trans hr2.2.symm) h9)
set_option maxHeartbeats 4000000 in
set_option maxRecDepth 100000 in
theorem law_c23 {p : Program} {l : Launch} {e : Env} {s : State} {m : MethodId} {below : List Frame} {meth : Method} {c : Code} {b L : Nat} {xs : Nat → Int32} {ZC ZM : ZW} (hE : LE p s m meth c b L xs ZC ZM) {i : Nat} (hi : i + 6 ≤ L) (hL : L ≤ 3072) {Q : State → Prop} {cells slots : Nat} (hcl : cells ≤ room_1.cells) (hsl : slots ≤ room_1.slots) {σ τ : SS} {a : AT} {H : Heap} {locs : List Loc} {ls : Array Slot} (hA : AB a) (hC : CI σ a) (hM : MI τ a) (hP : PZ ZC σ H) (hP2 : PZ ZM τ H) (hS : va_S (A0 s) s.heap H locs) (hl : lv_has ls 4 (lvL b i ZC ZM)) (hk : ∀ (σ τ : SS) (a : AT) (H : Heap) (locs : List Loc), AB a → CI σ a → MI τ a → PZ ZC σ H → PZ ZM τ H → va_S (A0 s) s.heap H locs → W p l e room_1 s m #[Value.ref b] below meth c H locs cells slots Q (F0 m 1183 ls [])) : W p l e room_1 s m #[Value.ref b] below meth c H locs cells slots Q (F0 m 851 ls []) := by
  obtain ⟨hx, hb, hr, hml, hown, hts0, hX, hbl, hlocks, hgv⟩ := hE.1
  have hts := hE.2.1
  have hown : s.vm.findClass RL = some m.cls := hown
  have hb : c.code = cL_law := hb
  have hbA : ¬ A0 s b := Nat.not_le.mpr hbl
  refine lv_aload_n hx hb dL_law_851 rfl (lv_at hl 2 rfl) ?_
  obtain ⟨rr, a2, hA2, hwc, hwm⟩ := p_saved hA hC hM
  refine lc_I (Z := ZC) (Z2 := ZM) (As := []) (rest := []) ⟨hx, hb, hml, hown, hts⟩ (cwV 0 hts gL_law_X5_saved rfl rfl rfl hd_X5_saved ⟨Nat.le_of_ble_eq_true rfl, Nat.le_of_ble_eq_true rfl⟩) (mt_X5_saved l hE.2.2.1.1 σ _ _ hwc) (lrc_5 hE.2.2.1.1 hE.2.2.2.1.1 hP) hE.2.2.2.1.1 hE.2.2.2.2.1 hP hP2 hS rfl hl.1 rfl (Nat.le_of_ble_eq_true rfl) dL_law_852 ⟨hcl, hsl⟩ (fun r1 σ2 H locs hr1 hP hP2 hS => ?_)
  refine lv_aload_n hx hb dL_law_855 rfl (lv_at hl 1 rfl) ?_
  refine lc_I (Z := ZM) (Z2 := ZC) (As := []) (rest := [.int r1]) ⟨hx, hb, hml, hown, hts⟩ (cwV 0 hts gL_law_X6_saved rfl rfl rfl hd_X6_saved ⟨Nat.le_of_ble_eq_true rfl, Nat.le_of_ble_eq_true rfl⟩) (mt_X6_saved l hE.2.2.1.2 τ _ _ hwm) (lrc_6 hE.2.2.1.2 hE.2.2.2.1.2 hP2) hE.2.2.2.1.2 hE.2.2.2.2.2 hP2 hP hS rfl hl.1 rfl (Nat.le_of_ble_eq_true rfl) dL_law_856 ⟨hcl, hsl⟩ (fun r2 τ2 H locs hr2 hP2 hP hS => ?_)
  refine lv_icmp_eq (tgt := 1183) hx hb dL_law_859 (by decide) (fun _ => hk _ _ _ _ _ hA2 hr1.1 hr2.1 hP hP2 hS) (fun h9 => absurd (hr1.2.trans hr2.2.symm) h9)
set_option maxHeartbeats 4000000 in
set_option maxRecDepth 100000 in
theorem law_c24 {p : Program} {l : Launch} {e : Env} {s : State} {m : MethodId} {below : List Frame} {meth : Method} {c : Code} {b L : Nat} {xs : Nat → Int32} {ZC ZM : ZW} (hE : LE p s m meth c b L xs ZC ZM) {i : Nat} (hi : i + 6 ≤ L) (hL : L ≤ 3072) {Q : State → Prop} {cells slots : Nat} (hcl : cells ≤ room_1.cells) (hsl : slots ≤ room_1.slots) {σ τ : SS} {a : AT} {H : Heap} {locs : List Loc} {ls : Array Slot} (hA : AB a) (hC : CI σ a) (hM : MI τ a) (hP : PZ ZC σ H) (hP2 : PZ ZM τ H) (hS : va_S (A0 s) s.heap H locs) (hl : lv_has ls 4 (lvL b i ZC ZM)) (hk : ∀ (σ τ : SS) (a : AT) (H : Heap) (locs : List Loc), AB a → CI σ a → MI τ a → PZ ZC σ H → PZ ZM τ H → va_S (A0 s) s.heap H locs → W p l e room_1 s m #[Value.ref b] below meth c H locs cells slots Q (F0 m 1183 ls [])) : W p l e room_1 s m #[Value.ref b] below meth c H locs cells slots Q (F0 m 864 ls []) := by
  obtain ⟨hx, hb, hr, hml, hown, hts0, hX, hbl, hlocks, hgv⟩ := hE.1
  have hts := hE.2.1
  have hown : s.vm.findClass RL = some m.cls := hown
  have hb : c.code = cL_law := hb
  have hbA : ¬ A0 s b := Nat.not_le.mpr hbl
  refine lv_aload_n hx hb dL_law_864 rfl (lv_at hl 2 rfl) ?_
  refine lv_aload_n hx hb dL_law_865 rfl (lv_at hl 3 rfl) ?_
  refine lv_iload_n hx hb dL_law_866 rfl (lv_at hl 0 rfl) ?_
  refine lv_iconst (v := nI 1) hx hb dL_law_867 (by decide) ?_
  refine lv_iadd hx hb dL_law_868 ?_
  rw [nI_p]
  refine va_sld hx hb hX hbl hbA hS (in_p hi hL (k := 1) (by decide)) dL_law_869 ?_
  refine lv_aload_n hx hb dL_law_870 rfl (lv_at hl 3 rfl) ?_
  refine lv_iload_n hx hb dL_law_871 rfl (lv_at hl 0 rfl) ?_
  refine lv_iconst (v := nI 2) hx hb dL_law_872 (by decide) ?_
  refine lv_iadd hx hb dL_law_873 ?_
  rw [nI_p]
  refine va_sld hx hb hX hbl hbA hS (in_p hi hL (k := 2) (by decide)) dL_law_874 ?_
  refine lv_aload_n hx hb dL_law_875 rfl (lv_at hl 3 rfl) ?_
  refine lv_iload_n hx hb dL_law_876 rfl (lv_at hl 0 rfl) ?_
  refine lv_iconst (v := nI 3) hx hb dL_law_877 (by decide) ?_
  refine lv_iadd hx hb dL_law_878 ?_
  rw [nI_p]
  refine va_sld hx hb hX hbl hbA hS (in_p hi hL (k := 3) (by decide)) dL_law_879 ?_
  obtain ⟨rr, a2, hA2, hwc, hwm⟩ := p_sheet hA hC hM (xs (nI (i + 1)).toNatClampNeg) (xs (nI (i + 2)).toNatClampNeg) (xs (nI (i + 3)).toNatClampNeg)
  refine lc_I (Z := ZC) (Z2 := ZM) (As := [.int (xs (nI (i + 1)).toNatClampNeg), .int (xs (nI (i + 2)).toNatClampNeg), .int (xs (nI (i + 3)).toNatClampNeg)]) (rest := []) ⟨hx, hb, hml, hown, hts⟩ (cwV 3 hts gL_law_X5_sheet rfl rfl rfl hd_X5_sheet ⟨Nat.le_of_ble_eq_true rfl, Nat.le_of_ble_eq_true rfl⟩) (mt_X5_sheet l hE.2.2.1.1 σ _ (xs (nI (i + 1)).toNatClampNeg) (xs (nI (i + 2)).toNatClampNeg) (xs (nI (i + 3)).toNatClampNeg) _ hwc) (lrc_5 hE.2.2.1.1 hE.2.2.2.1.1 hP) hE.2.2.2.1.1 hE.2.2.2.2.1 hP hP2 hS rfl hl.1 rfl (Nat.le_of_ble_eq_true rfl) dL_law_880 ⟨hcl, hsl⟩ (fun r1 σ2 H locs hr1 hP hP2 hS => ?_)
  refine lv_aload_n hx hb dL_law_883 rfl (lv_at hl 1 rfl) ?_
  refine lv_aload_n hx hb dL_law_884 rfl (lv_at hl 3 rfl) ?_
  refine lv_iload_n hx hb dL_law_885 rfl (lv_at hl 0 rfl) ?_
  refine lv_iconst (v := nI 1) hx hb dL_law_886 (by decide) ?_
  refine lv_iadd hx hb dL_law_887 ?_
  rw [nI_p]
  refine va_sld hx hb hX hbl hbA hS (in_p hi hL (k := 1) (by decide)) dL_law_888 ?_
  refine lv_aload_n hx hb dL_law_889 rfl (lv_at hl 3 rfl) ?_
  refine lv_iload_n hx hb dL_law_890 rfl (lv_at hl 0 rfl) ?_
  refine lv_iconst (v := nI 2) hx hb dL_law_891 (by decide) ?_
  refine lv_iadd hx hb dL_law_892 ?_
  rw [nI_p]
  refine va_sld hx hb hX hbl hbA hS (in_p hi hL (k := 2) (by decide)) dL_law_893 ?_
  refine lv_aload_n hx hb dL_law_894 rfl (lv_at hl 3 rfl) ?_
  refine lv_iload_n hx hb dL_law_895 rfl (lv_at hl 0 rfl) ?_
  refine lv_iconst (v := nI 3) hx hb dL_law_896 (by decide) ?_
  refine lv_iadd hx hb dL_law_897 ?_
  rw [nI_p]
  refine va_sld hx hb hX hbl hbA hS (in_p hi hL (k := 3) (by decide)) dL_law_898 ?_
  refine lc_I (Z := ZM) (Z2 := ZC) (As := [.int (xs (nI (i + 1)).toNatClampNeg), .int (xs (nI (i + 2)).toNatClampNeg), .int (xs (nI (i + 3)).toNatClampNeg)]) (rest := [.int r1]) ⟨hx, hb, hml, hown, hts⟩ (cwV 3 hts gL_law_X6_sheet rfl rfl rfl hd_X6_sheet ⟨Nat.le_of_ble_eq_true rfl, Nat.le_of_ble_eq_true rfl⟩) (mt_X6_sheet l hE.2.2.1.2 τ _ (xs (nI (i + 1)).toNatClampNeg) (xs (nI (i + 2)).toNatClampNeg) (xs (nI (i + 3)).toNatClampNeg) _ hwm) (lrc_6 hE.2.2.1.2 hE.2.2.2.1.2 hP2) hE.2.2.2.1.2 hE.2.2.2.2.2 hP2 hP hS rfl hl.1 rfl (Nat.le_of_ble_eq_true rfl) dL_law_899 ⟨hcl, hsl⟩ (fun r2 τ2 H locs hr2 hP2 hP hS => ?_)
  refine lv_icmp_eq (tgt := 1183) hx hb dL_law_902 (by decide) (fun _ => hk _ _ _ _ _ hA2 hr1.1 hr2.1 hP hP2 hS) (fun h9 => absurd (hr1.2.trans hr2.2.symm) h9)
set_option maxHeartbeats 4000000 in
set_option maxRecDepth 100000 in
theorem law_c25 {p : Program} {l : Launch} {e : Env} {s : State} {m : MethodId} {below : List Frame} {meth : Method} {c : Code} {b L : Nat} {xs : Nat → Int32} {ZC ZM : ZW} (hE : LE p s m meth c b L xs ZC ZM) {i : Nat} (hi : i + 6 ≤ L) (hL : L ≤ 3072) {Q : State → Prop} {cells slots : Nat} (hcl : cells ≤ room_1.cells) (hsl : slots ≤ room_1.slots) {σ τ : SS} {a : AT} {H : Heap} {locs : List Loc} {ls : Array Slot} (hA : AB a) (hC : CI σ a) (hM : MI τ a) (hP : PZ ZC σ H) (hP2 : PZ ZM τ H) (hS : va_S (A0 s) s.heap H locs) (hl : lv_has ls 4 (lvL b i ZC ZM)) (hk : ∀ (σ τ : SS) (a : AT) (H : Heap) (locs : List Loc), AB a → CI σ a → MI τ a → PZ ZC σ H → PZ ZM τ H → va_S (A0 s) s.heap H locs → W p l e room_1 s m #[Value.ref b] below meth c H locs cells slots Q (F0 m 1183 ls [])) : W p l e room_1 s m #[Value.ref b] below meth c H locs cells slots Q (F0 m 907 ls []) := by
  obtain ⟨hx, hb, hr, hml, hown, hts0, hX, hbl, hlocks, hgv⟩ := hE.1
  have hts := hE.2.1
  have hown : s.vm.findClass RL = some m.cls := hown
  have hb : c.code = cL_law := hb
  have hbA : ¬ A0 s b := Nat.not_le.mpr hbl
  refine lv_aload_n hx hb dL_law_907 rfl (lv_at hl 2 rfl) ?_
  refine lv_aload_n hx hb dL_law_908 rfl (lv_at hl 3 rfl) ?_
  refine lv_iload_n hx hb dL_law_909 rfl (lv_at hl 0 rfl) ?_
  refine lv_iconst (v := nI 1) hx hb dL_law_910 (by decide) ?_
  refine lv_iadd hx hb dL_law_911 ?_
  rw [nI_p]
  refine va_sld hx hb hX hbl hbA hS (in_p hi hL (k := 1) (by decide)) dL_law_912 ?_
  obtain ⟨rr, a2, hA2, hwc, hwm⟩ := p_lose hA hC hM (xs (nI (i + 1)).toNatClampNeg)
  refine lc_I (Z := ZC) (Z2 := ZM) (As := [.int (xs (nI (i + 1)).toNatClampNeg)]) (rest := []) ⟨hx, hb, hml, hown, hts⟩ (cwV 1 hts gL_law_X5_lose rfl rfl rfl hd_X5_lose ⟨Nat.le_of_ble_eq_true rfl, Nat.le_of_ble_eq_true rfl⟩) (mt_X5_lose l hE.2.2.1.1 σ _ (xs (nI (i + 1)).toNatClampNeg) _ hwc) (lrc_5 hE.2.2.1.1 hE.2.2.2.1.1 hP) hE.2.2.2.1.1 hE.2.2.2.2.1 hP hP2 hS rfl hl.1 rfl (Nat.le_of_ble_eq_true rfl) dL_law_913 ⟨hcl, hsl⟩ (fun r1 σ2 H locs hr1 hP hP2 hS => ?_)
  refine lv_aload_n hx hb dL_law_916 rfl (lv_at hl 1 rfl) ?_
  refine lv_aload_n hx hb dL_law_917 rfl (lv_at hl 3 rfl) ?_
  refine lv_iload_n hx hb dL_law_918 rfl (lv_at hl 0 rfl) ?_
  refine lv_iconst (v := nI 1) hx hb dL_law_919 (by decide) ?_
  refine lv_iadd hx hb dL_law_920 ?_
  rw [nI_p]
  refine va_sld hx hb hX hbl hbA hS (in_p hi hL (k := 1) (by decide)) dL_law_921 ?_
  refine lc_I (Z := ZM) (Z2 := ZC) (As := [.int (xs (nI (i + 1)).toNatClampNeg)]) (rest := [.int r1]) ⟨hx, hb, hml, hown, hts⟩ (cwV 1 hts gL_law_X6_lose rfl rfl rfl hd_X6_lose ⟨Nat.le_of_ble_eq_true rfl, Nat.le_of_ble_eq_true rfl⟩) (mt_X6_lose l hE.2.2.1.2 τ _ (xs (nI (i + 1)).toNatClampNeg) _ hwm) (lrc_6 hE.2.2.1.2 hE.2.2.2.1.2 hP2) hE.2.2.2.1.2 hE.2.2.2.2.2 hP2 hP hS rfl hl.1 rfl (Nat.le_of_ble_eq_true rfl) dL_law_922 ⟨hcl, hsl⟩ (fun r2 τ2 H locs hr2 hP2 hP hS => ?_)
  refine lv_icmp_eq (tgt := 1183) hx hb dL_law_925 (by decide) (fun _ => hk _ _ _ _ _ hA2 hr1.1 hr2.1 hP hP2 hS) (fun h9 => absurd (hr1.2.trans hr2.2.symm) h9)
set_option maxHeartbeats 4000000 in
set_option maxRecDepth 100000 in
theorem law_c26 {p : Program} {l : Launch} {e : Env} {s : State} {m : MethodId} {below : List Frame} {meth : Method} {c : Code} {b L : Nat} {xs : Nat → Int32} {ZC ZM : ZW} (hE : LE p s m meth c b L xs ZC ZM) {i : Nat} (hi : i + 6 ≤ L) (hL : L ≤ 3072) {Q : State → Prop} {cells slots : Nat} (hcl : cells ≤ room_1.cells) (hsl : slots ≤ room_1.slots) {σ τ : SS} {a : AT} {H : Heap} {locs : List Loc} {ls : Array Slot} (hA : AB a) (hC : CI σ a) (hM : MI τ a) (hP : PZ ZC σ H) (hP2 : PZ ZM τ H) (hS : va_S (A0 s) s.heap H locs) (hl : lv_has ls 4 (lvL b i ZC ZM)) (hk : ∀ (σ τ : SS) (a : AT) (H : Heap) (locs : List Loc), AB a → CI σ a → MI τ a → PZ ZC σ H → PZ ZM τ H → va_S (A0 s) s.heap H locs → W p l e room_1 s m #[Value.ref b] below meth c H locs cells slots Q (F0 m 1183 ls [])) : W p l e room_1 s m #[Value.ref b] below meth c H locs cells slots Q (F0 m 930 ls []) := by
  obtain ⟨hx, hb, hr, hml, hown, hts0, hX, hbl, hlocks, hgv⟩ := hE.1
  have hts := hE.2.1
  have hown : s.vm.findClass RL = some m.cls := hown
  have hb : c.code = cL_law := hb
  have hbA : ¬ A0 s b := Nat.not_le.mpr hbl
  refine lv_aload_n hx hb dL_law_930 rfl (lv_at hl 2 rfl) ?_
  refine lv_aload_n hx hb dL_law_931 rfl (lv_at hl 3 rfl) ?_
  refine lv_iload_n hx hb dL_law_932 rfl (lv_at hl 0 rfl) ?_
  refine lv_iconst (v := nI 1) hx hb dL_law_933 (by decide) ?_
  refine lv_iadd hx hb dL_law_934 ?_
  rw [nI_p]
  refine va_sld hx hb hX hbl hbA hS (in_p hi hL (k := 1) (by decide)) dL_law_935 ?_
  refine lv_aload_n hx hb dL_law_936 rfl (lv_at hl 3 rfl) ?_
  refine lv_iload_n hx hb dL_law_937 rfl (lv_at hl 0 rfl) ?_
  refine lv_iconst (v := nI 2) hx hb dL_law_938 (by decide) ?_
  refine lv_iadd hx hb dL_law_939 ?_
  rw [nI_p]
  refine va_sld hx hb hX hbl hbA hS (in_p hi hL (k := 2) (by decide)) dL_law_940 ?_
  refine lv_aload_n hx hb dL_law_941 rfl (lv_at hl 3 rfl) ?_
  refine lv_iload_n hx hb dL_law_942 rfl (lv_at hl 0 rfl) ?_
  refine lv_iconst (v := nI 3) hx hb dL_law_943 (by decide) ?_
  refine lv_iadd hx hb dL_law_944 ?_
  rw [nI_p]
  refine va_sld hx hb hX hbl hbA hS (in_p hi hL (k := 3) (by decide)) dL_law_945 ?_
  refine lv_aload_n hx hb dL_law_946 rfl (lv_at hl 3 rfl) ?_
  refine lv_iload_n hx hb dL_law_947 rfl (lv_at hl 0 rfl) ?_
  refine lv_iconst (v := nI 4) hx hb dL_law_948 (by decide) ?_
  refine lv_iadd hx hb dL_law_949 ?_
  rw [nI_p]
  refine va_sld hx hb hX hbl hbA hS (in_p hi hL (k := 4) (by decide)) dL_law_950 ?_
  obtain ⟨rr, a2, hA2, hwc, hwm⟩ := p_put hA hC hM (xs (nI (i + 1)).toNatClampNeg) (xs (nI (i + 2)).toNatClampNeg) (xs (nI (i + 3)).toNatClampNeg) (xs (nI (i + 4)).toNatClampNeg)
  refine lc_I (Z := ZC) (Z2 := ZM) (As := [.int (xs (nI (i + 1)).toNatClampNeg), .int (xs (nI (i + 2)).toNatClampNeg), .int (xs (nI (i + 3)).toNatClampNeg), .int (xs (nI (i + 4)).toNatClampNeg)]) (rest := []) ⟨hx, hb, hml, hown, hts⟩ (cwV 4 hts gL_law_X5_put rfl rfl rfl hd_X5_put ⟨Nat.le_of_ble_eq_true rfl, Nat.le_of_ble_eq_true rfl⟩) (mt_X5_put l hE.2.2.1.1 σ _ (xs (nI (i + 1)).toNatClampNeg) (xs (nI (i + 2)).toNatClampNeg) (xs (nI (i + 3)).toNatClampNeg) (xs (nI (i + 4)).toNatClampNeg) _ hwc) (lrc_5 hE.2.2.1.1 hE.2.2.2.1.1 hP) hE.2.2.2.1.1 hE.2.2.2.2.1 hP hP2 hS rfl hl.1 rfl (Nat.le_of_ble_eq_true rfl) dL_law_951 ⟨hcl, hsl⟩ (fun r1 σ2 H locs hr1 hP hP2 hS => ?_)
  refine lv_aload_n hx hb dL_law_954 rfl (lv_at hl 1 rfl) ?_
  refine lv_aload_n hx hb dL_law_955 rfl (lv_at hl 3 rfl) ?_
  refine lv_iload_n hx hb dL_law_956 rfl (lv_at hl 0 rfl) ?_
  refine lv_iconst (v := nI 1) hx hb dL_law_957 (by decide) ?_
  refine lv_iadd hx hb dL_law_958 ?_
  rw [nI_p]
  refine va_sld hx hb hX hbl hbA hS (in_p hi hL (k := 1) (by decide)) dL_law_959 ?_
  refine lv_aload_n hx hb dL_law_960 rfl (lv_at hl 3 rfl) ?_
  refine lv_iload_n hx hb dL_law_961 rfl (lv_at hl 0 rfl) ?_
  refine lv_iconst (v := nI 2) hx hb dL_law_962 (by decide) ?_
  refine lv_iadd hx hb dL_law_963 ?_
  rw [nI_p]
  refine va_sld hx hb hX hbl hbA hS (in_p hi hL (k := 2) (by decide)) dL_law_964 ?_
  refine lv_aload_n hx hb dL_law_965 rfl (lv_at hl 3 rfl) ?_
  refine lv_iload_n hx hb dL_law_966 rfl (lv_at hl 0 rfl) ?_
  refine lv_iconst (v := nI 3) hx hb dL_law_967 (by decide) ?_
  refine lv_iadd hx hb dL_law_968 ?_
  rw [nI_p]
  refine va_sld hx hb hX hbl hbA hS (in_p hi hL (k := 3) (by decide)) dL_law_969 ?_
  refine lv_aload_n hx hb dL_law_970 rfl (lv_at hl 3 rfl) ?_
  refine lv_iload_n hx hb dL_law_971 rfl (lv_at hl 0 rfl) ?_
  refine lv_iconst (v := nI 4) hx hb dL_law_972 (by decide) ?_
  refine lv_iadd hx hb dL_law_973 ?_
  rw [nI_p]
  refine va_sld hx hb hX hbl hbA hS (in_p hi hL (k := 4) (by decide)) dL_law_974 ?_
  refine lc_I (Z := ZM) (Z2 := ZC) (As := [.int (xs (nI (i + 1)).toNatClampNeg), .int (xs (nI (i + 2)).toNatClampNeg), .int (xs (nI (i + 3)).toNatClampNeg), .int (xs (nI (i + 4)).toNatClampNeg)]) (rest := [.int r1]) ⟨hx, hb, hml, hown, hts⟩ (cwV 4 hts gL_law_X6_put rfl rfl rfl hd_X6_put ⟨Nat.le_of_ble_eq_true rfl, Nat.le_of_ble_eq_true rfl⟩) (mt_X6_put l hE.2.2.1.2 τ _ (xs (nI (i + 1)).toNatClampNeg) (xs (nI (i + 2)).toNatClampNeg) (xs (nI (i + 3)).toNatClampNeg) (xs (nI (i + 4)).toNatClampNeg) _ hwm) (lrc_6 hE.2.2.1.2 hE.2.2.2.1.2 hP2) hE.2.2.2.1.2 hE.2.2.2.2.2 hP2 hP hS rfl hl.1 rfl (Nat.le_of_ble_eq_true rfl) dL_law_975 ⟨hcl, hsl⟩ (fun r2 τ2 H locs hr2 hP2 hP hS => ?_)
  refine lv_icmp_eq (tgt := 1183) hx hb dL_law_978 (by decide) (fun _ => hk _ _ _ _ _ hA2 hr1.1 hr2.1 hP hP2 hS) (fun h9 => absurd (hr1.2.trans hr2.2.symm) h9)
set_option maxHeartbeats 4000000 in
set_option maxRecDepth 100000 in
theorem law_c27 {p : Program} {l : Launch} {e : Env} {s : State} {m : MethodId} {below : List Frame} {meth : Method} {c : Code} {b L : Nat} {xs : Nat → Int32} {ZC ZM : ZW} (hE : LE p s m meth c b L xs ZC ZM) {i : Nat} (hi : i + 6 ≤ L) (hL : L ≤ 3072) {Q : State → Prop} {cells slots : Nat} (hcl : cells ≤ room_1.cells) (hsl : slots ≤ room_1.slots) {σ τ : SS} {a : AT} {H : Heap} {locs : List Loc} {ls : Array Slot} (hA : AB a) (hC : CI σ a) (hM : MI τ a) (hP : PZ ZC σ H) (hP2 : PZ ZM τ H) (hS : va_S (A0 s) s.heap H locs) (hl : lv_has ls 4 (lvL b i ZC ZM)) (hk : ∀ (σ τ : SS) (a : AT) (H : Heap) (locs : List Loc), AB a → CI σ a → MI τ a → PZ ZC σ H → PZ ZM τ H → va_S (A0 s) s.heap H locs → W p l e room_1 s m #[Value.ref b] below meth c H locs cells slots Q (F0 m 1183 ls [])) : W p l e room_1 s m #[Value.ref b] below meth c H locs cells slots Q (F0 m 983 ls []) := by
  obtain ⟨hx, hb, hr, hml, hown, hts0, hX, hbl, hlocks, hgv⟩ := hE.1
  have hts := hE.2.1
  have hown : s.vm.findClass RL = some m.cls := hown
  have hb : c.code = cL_law := hb
  have hbA : ¬ A0 s b := Nat.not_le.mpr hbl
  refine lv_aload_n hx hb dL_law_983 rfl (lv_at hl 2 rfl) ?_
  refine lv_aload_n hx hb dL_law_984 rfl (lv_at hl 3 rfl) ?_
  refine lv_iload_n hx hb dL_law_985 rfl (lv_at hl 0 rfl) ?_
  refine lv_iconst (v := nI 1) hx hb dL_law_986 (by decide) ?_
  refine lv_iadd hx hb dL_law_987 ?_
  rw [nI_p]
  refine va_sld hx hb hX hbl hbA hS (in_p hi hL (k := 1) (by decide)) dL_law_988 ?_
  refine lv_aload_n hx hb dL_law_989 rfl (lv_at hl 3 rfl) ?_
  refine lv_iload_n hx hb dL_law_990 rfl (lv_at hl 0 rfl) ?_
  refine lv_iconst (v := nI 2) hx hb dL_law_991 (by decide) ?_
  refine lv_iadd hx hb dL_law_992 ?_
  rw [nI_p]
  refine va_sld hx hb hX hbl hbA hS (in_p hi hL (k := 2) (by decide)) dL_law_993 ?_
  obtain ⟨rr, a2, hA2, hwc, hwm⟩ := p_get hA hC hM (xs (nI (i + 1)).toNatClampNeg) (xs (nI (i + 2)).toNatClampNeg)
  refine lc_L (Z := ZC) (Z2 := ZM) (As := [.int (xs (nI (i + 1)).toNatClampNeg), .int (xs (nI (i + 2)).toNatClampNeg)]) (rest := []) ⟨hx, hb, hml, hown, hts⟩ (cwV 2 hts gL_law_X5_get rfl rfl rfl hd_X5_get ⟨Nat.le_of_ble_eq_true rfl, Nat.le_of_ble_eq_true rfl⟩) (mt_X5_get l hE.2.2.1.1 σ _ (xs (nI (i + 1)).toNatClampNeg) (xs (nI (i + 2)).toNatClampNeg) _ hwc) (lrc_5 hE.2.2.1.1 hE.2.2.2.1.1 hP) hE.2.2.2.1.1 hE.2.2.2.2.1 hP hP2 hS rfl hl.1 rfl (Nat.le_of_ble_eq_true rfl) dL_law_994 ⟨hcl, hsl⟩ (fun r1 σ2 H locs hr1 hP hP2 hS => ?_)
  refine lv_aload_n hx hb dL_law_997 rfl (lv_at hl 1 rfl) ?_
  refine lv_aload_n hx hb dL_law_998 rfl (lv_at hl 3 rfl) ?_
  refine lv_iload_n hx hb dL_law_999 rfl (lv_at hl 0 rfl) ?_
  refine lv_iconst (v := nI 1) hx hb dL_law_1000 (by decide) ?_
  refine lv_iadd hx hb dL_law_1001 ?_
  rw [nI_p]
  refine va_sld hx hb hX hbl hbA hS (in_p hi hL (k := 1) (by decide)) dL_law_1002 ?_
  refine lv_aload_n hx hb dL_law_1003 rfl (lv_at hl 3 rfl) ?_
  refine lv_iload_n hx hb dL_law_1004 rfl (lv_at hl 0 rfl) ?_
  refine lv_iconst (v := nI 2) hx hb dL_law_1005 (by decide) ?_
  refine lv_iadd hx hb dL_law_1006 ?_
  rw [nI_p]
  refine va_sld hx hb hX hbl hbA hS (in_p hi hL (k := 2) (by decide)) dL_law_1007 ?_
  refine lc_L (Z := ZM) (Z2 := ZC) (As := [.int (xs (nI (i + 1)).toNatClampNeg), .int (xs (nI (i + 2)).toNatClampNeg)]) (rest := [.long r1]) ⟨hx, hb, hml, hown, hts⟩ (cwV 2 hts gL_law_X6_get rfl rfl rfl hd_X6_get ⟨Nat.le_of_ble_eq_true rfl, Nat.le_of_ble_eq_true rfl⟩) (mt_X6_get l hE.2.2.1.2 τ _ (xs (nI (i + 1)).toNatClampNeg) (xs (nI (i + 2)).toNatClampNeg) _ hwm) (lrc_6 hE.2.2.1.2 hE.2.2.2.1.2 hP2) hE.2.2.2.1.2 hE.2.2.2.2.2 hP2 hP hS rfl hl.1 rfl (Nat.le_of_ble_eq_true rfl) dL_law_1008 ⟨hcl, hsl⟩ (fun r2 τ2 H locs hr2 hP2 hP hS => ?_)
  refine W.lcmp hx hb dL_law_1011 ?_
  refine lv_if_eq (tgt := 1183) hx hb dL_law_1012 (by decide) (fun _ => hk _ _ _ _ _ hA2 hr1.1 hr2.1 hP hP2 hS) (fun h9 => absurd ((lg_cmp_eq _ _).mpr (hr1.2.trans hr2.2.symm)) h9)
set_option maxHeartbeats 4000000 in
set_option maxRecDepth 100000 in
theorem law_c28 {p : Program} {l : Launch} {e : Env} {s : State} {m : MethodId} {below : List Frame} {meth : Method} {c : Code} {b L : Nat} {xs : Nat → Int32} {ZC ZM : ZW} (hE : LE p s m meth c b L xs ZC ZM) {i : Nat} (hi : i + 6 ≤ L) (hL : L ≤ 3072) {Q : State → Prop} {cells slots : Nat} (hcl : cells ≤ room_1.cells) (hsl : slots ≤ room_1.slots) {σ τ : SS} {a : AT} {H : Heap} {locs : List Loc} {ls : Array Slot} (hA : AB a) (hC : CI σ a) (hM : MI τ a) (hP : PZ ZC σ H) (hP2 : PZ ZM τ H) (hS : va_S (A0 s) s.heap H locs) (hl : lv_has ls 4 (lvL b i ZC ZM)) (hk : ∀ (σ τ : SS) (a : AT) (H : Heap) (locs : List Loc), AB a → CI σ a → MI τ a → PZ ZC σ H → PZ ZM τ H → va_S (A0 s) s.heap H locs → W p l e room_1 s m #[Value.ref b] below meth c H locs cells slots Q (F0 m 1183 ls [])) : W p l e room_1 s m #[Value.ref b] below meth c H locs cells slots Q (F0 m 1017 ls []) := by
  obtain ⟨hx, hb, hr, hml, hown, hts0, hX, hbl, hlocks, hgv⟩ := hE.1
  have hts := hE.2.1
  have hown : s.vm.findClass RL = some m.cls := hown
  have hb : c.code = cL_law := hb
  have hbA : ¬ A0 s b := Nat.not_le.mpr hbl
  refine lv_aload_n hx hb dL_law_1017 rfl (lv_at hl 2 rfl) ?_
  refine lv_aload_n hx hb dL_law_1018 rfl (lv_at hl 3 rfl) ?_
  refine lv_iload_n hx hb dL_law_1019 rfl (lv_at hl 0 rfl) ?_
  refine lv_iconst (v := nI 1) hx hb dL_law_1020 (by decide) ?_
  refine lv_iadd hx hb dL_law_1021 ?_
  rw [nI_p]
  refine va_sld hx hb hX hbl hbA hS (in_p hi hL (k := 1) (by decide)) dL_law_1022 ?_
  refine lv_aload_n hx hb dL_law_1023 rfl (lv_at hl 3 rfl) ?_
  refine lv_iload_n hx hb dL_law_1024 rfl (lv_at hl 0 rfl) ?_
  refine lv_iconst (v := nI 2) hx hb dL_law_1025 (by decide) ?_
  refine lv_iadd hx hb dL_law_1026 ?_
  rw [nI_p]
  refine va_sld hx hb hX hbl hbA hS (in_p hi hL (k := 2) (by decide)) dL_law_1027 ?_
  refine lv_aload_n hx hb dL_law_1028 rfl (lv_at hl 3 rfl) ?_
  refine lv_iload_n hx hb dL_law_1029 rfl (lv_at hl 0 rfl) ?_
  refine lv_iconst (v := nI 3) hx hb dL_law_1030 (by decide) ?_
  refine lv_iadd hx hb dL_law_1031 ?_
  rw [nI_p]
  refine va_sld hx hb hX hbl hbA hS (in_p hi hL (k := 3) (by decide)) dL_law_1032 ?_
  refine lv_aload_n hx hb dL_law_1033 rfl (lv_at hl 3 rfl) ?_
  refine lv_iload_n hx hb dL_law_1034 rfl (lv_at hl 0 rfl) ?_
  refine lv_iconst (v := nI 4) hx hb dL_law_1035 (by decide) ?_
  refine lv_iadd hx hb dL_law_1036 ?_
  rw [nI_p]
  refine va_sld hx hb hX hbl hbA hS (in_p hi hL (k := 4) (by decide)) dL_law_1037 ?_
  refine lv_aload_n hx hb dL_law_1038 rfl (lv_at hl 3 rfl) ?_
  refine lv_iload_n hx hb dL_law_1039 rfl (lv_at hl 0 rfl) ?_
  refine lv_iconst (v := nI 5) hx hb dL_law_1040 (by decide) ?_
  refine lv_iadd hx hb dL_law_1041 ?_
  rw [nI_p]
  refine va_sld hx hb hX hbl hbA hS (in_p hi hL (k := 5) (by decide)) dL_law_1042 ?_
  obtain ⟨rr, a2, hA2, hwc, hwm⟩ := p_copy hA hC hM (xs (nI (i + 1)).toNatClampNeg) (xs (nI (i + 2)).toNatClampNeg) (xs (nI (i + 3)).toNatClampNeg) (xs (nI (i + 4)).toNatClampNeg) (xs (nI (i + 5)).toNatClampNeg)
  refine lc_I (Z := ZC) (Z2 := ZM) (As := [.int (xs (nI (i + 1)).toNatClampNeg), .int (xs (nI (i + 2)).toNatClampNeg), .int (xs (nI (i + 3)).toNatClampNeg), .int (xs (nI (i + 4)).toNatClampNeg), .int (xs (nI (i + 5)).toNatClampNeg)]) (rest := []) ⟨hx, hb, hml, hown, hts⟩ (cwV 5 hts gL_law_X5_copy rfl rfl rfl hd_X5_copy ⟨Nat.le_of_ble_eq_true rfl, Nat.le_of_ble_eq_true rfl⟩) (mt_X5_copy l hE.2.2.1.1 σ _ (xs (nI (i + 1)).toNatClampNeg) (xs (nI (i + 2)).toNatClampNeg) (xs (nI (i + 3)).toNatClampNeg) (xs (nI (i + 4)).toNatClampNeg) (xs (nI (i + 5)).toNatClampNeg) _ hwc) (lrc_5 hE.2.2.1.1 hE.2.2.2.1.1 hP) hE.2.2.2.1.1 hE.2.2.2.2.1 hP hP2 hS rfl hl.1 rfl (Nat.le_of_ble_eq_true rfl) dL_law_1043 ⟨hcl, hsl⟩ (fun r1 σ2 H locs hr1 hP hP2 hS => ?_)
  refine lv_aload_n hx hb dL_law_1046 rfl (lv_at hl 1 rfl) ?_
  refine lv_aload_n hx hb dL_law_1047 rfl (lv_at hl 3 rfl) ?_
  refine lv_iload_n hx hb dL_law_1048 rfl (lv_at hl 0 rfl) ?_
  refine lv_iconst (v := nI 1) hx hb dL_law_1049 (by decide) ?_
  refine lv_iadd hx hb dL_law_1050 ?_
  rw [nI_p]
  refine va_sld hx hb hX hbl hbA hS (in_p hi hL (k := 1) (by decide)) dL_law_1051 ?_
  refine lv_aload_n hx hb dL_law_1052 rfl (lv_at hl 3 rfl) ?_
  refine lv_iload_n hx hb dL_law_1053 rfl (lv_at hl 0 rfl) ?_
  refine lv_iconst (v := nI 2) hx hb dL_law_1054 (by decide) ?_
  refine lv_iadd hx hb dL_law_1055 ?_
  rw [nI_p]
  refine va_sld hx hb hX hbl hbA hS (in_p hi hL (k := 2) (by decide)) dL_law_1056 ?_
  refine lv_aload_n hx hb dL_law_1057 rfl (lv_at hl 3 rfl) ?_
  refine lv_iload_n hx hb dL_law_1058 rfl (lv_at hl 0 rfl) ?_
  refine lv_iconst (v := nI 3) hx hb dL_law_1059 (by decide) ?_
  refine lv_iadd hx hb dL_law_1060 ?_
  rw [nI_p]
  refine va_sld hx hb hX hbl hbA hS (in_p hi hL (k := 3) (by decide)) dL_law_1061 ?_
  refine lv_aload_n hx hb dL_law_1062 rfl (lv_at hl 3 rfl) ?_
  refine lv_iload_n hx hb dL_law_1063 rfl (lv_at hl 0 rfl) ?_
  refine lv_iconst (v := nI 4) hx hb dL_law_1064 (by decide) ?_
  refine lv_iadd hx hb dL_law_1065 ?_
  rw [nI_p]
  refine va_sld hx hb hX hbl hbA hS (in_p hi hL (k := 4) (by decide)) dL_law_1066 ?_
  refine lv_aload_n hx hb dL_law_1067 rfl (lv_at hl 3 rfl) ?_
  refine lv_iload_n hx hb dL_law_1068 rfl (lv_at hl 0 rfl) ?_
  refine lv_iconst (v := nI 5) hx hb dL_law_1069 (by decide) ?_
  refine lv_iadd hx hb dL_law_1070 ?_
  rw [nI_p]
  refine va_sld hx hb hX hbl hbA hS (in_p hi hL (k := 5) (by decide)) dL_law_1071 ?_
  refine lc_I (Z := ZM) (Z2 := ZC) (As := [.int (xs (nI (i + 1)).toNatClampNeg), .int (xs (nI (i + 2)).toNatClampNeg), .int (xs (nI (i + 3)).toNatClampNeg), .int (xs (nI (i + 4)).toNatClampNeg), .int (xs (nI (i + 5)).toNatClampNeg)]) (rest := [.int r1]) ⟨hx, hb, hml, hown, hts⟩ (cwV 5 hts gL_law_X6_copy rfl rfl rfl hd_X6_copy ⟨Nat.le_of_ble_eq_true rfl, Nat.le_of_ble_eq_true rfl⟩) (mt_X6_copy l hE.2.2.1.2 τ _ (xs (nI (i + 1)).toNatClampNeg) (xs (nI (i + 2)).toNatClampNeg) (xs (nI (i + 3)).toNatClampNeg) (xs (nI (i + 4)).toNatClampNeg) (xs (nI (i + 5)).toNatClampNeg) _ hwm) (lrc_6 hE.2.2.1.2 hE.2.2.2.1.2 hP2) hE.2.2.2.1.2 hE.2.2.2.2.2 hP2 hP hS rfl hl.1 rfl (Nat.le_of_ble_eq_true rfl) dL_law_1072 ⟨hcl, hsl⟩ (fun r2 τ2 H locs hr2 hP2 hP hS => ?_)
  refine lv_icmp_eq (tgt := 1183) hx hb dL_law_1075 (by decide) (fun _ => hk _ _ _ _ _ hA2 hr1.1 hr2.1 hP hP2 hS) (fun h9 => absurd (hr1.2.trans hr2.2.symm) h9)
set_option maxHeartbeats 4000000 in
set_option maxRecDepth 100000 in
theorem law_c29 {p : Program} {l : Launch} {e : Env} {s : State} {m : MethodId} {below : List Frame} {meth : Method} {c : Code} {b L : Nat} {xs : Nat → Int32} {ZC ZM : ZW} (hE : LE p s m meth c b L xs ZC ZM) {i : Nat} (hi : i + 6 ≤ L) (hL : L ≤ 3072) {Q : State → Prop} {cells slots : Nat} (hcl : cells ≤ room_1.cells) (hsl : slots ≤ room_1.slots) {σ τ : SS} {a : AT} {H : Heap} {locs : List Loc} {ls : Array Slot} (hA : AB a) (hC : CI σ a) (hM : MI τ a) (hP : PZ ZC σ H) (hP2 : PZ ZM τ H) (hS : va_S (A0 s) s.heap H locs) (hl : lv_has ls 4 (lvL b i ZC ZM)) (hk : ∀ (σ τ : SS) (a : AT) (H : Heap) (locs : List Loc), AB a → CI σ a → MI τ a → PZ ZC σ H → PZ ZM τ H → va_S (A0 s) s.heap H locs → W p l e room_1 s m #[Value.ref b] below meth c H locs cells slots Q (F0 m 1183 ls [])) : W p l e room_1 s m #[Value.ref b] below meth c H locs cells slots Q (F0 m 1080 ls []) := by
  obtain ⟨hx, hb, hr, hml, hown, hts0, hX, hbl, hlocks, hgv⟩ := hE.1
  have hts := hE.2.1
  have hown : s.vm.findClass RL = some m.cls := hown
  have hb : c.code = cL_law := hb
  have hbA : ¬ A0 s b := Nat.not_le.mpr hbl
  refine lv_aload_n hx hb dL_law_1080 rfl (lv_at hl 2 rfl) ?_
  refine lv_aload_n hx hb dL_law_1081 rfl (lv_at hl 3 rfl) ?_
  refine lv_iload_n hx hb dL_law_1082 rfl (lv_at hl 0 rfl) ?_
  refine lv_iconst (v := nI 1) hx hb dL_law_1083 (by decide) ?_
  refine lv_iadd hx hb dL_law_1084 ?_
  rw [nI_p]
  refine va_sld hx hb hX hbl hbA hS (in_p hi hL (k := 1) (by decide)) dL_law_1085 ?_
  obtain ⟨rr, a2, hA2, hwc, hwm⟩ := p_write hA hC hM (xs (nI (i + 1)).toNatClampNeg)
  refine lc_I (Z := ZC) (Z2 := ZM) (As := [.int (xs (nI (i + 1)).toNatClampNeg)]) (rest := []) ⟨hx, hb, hml, hown, hts⟩ (cwV 1 hts gL_law_X5_write rfl rfl rfl hd_X5_write ⟨Nat.le_of_ble_eq_true rfl, Nat.le_of_ble_eq_true rfl⟩) (mt_X5_write l hE.2.2.1.1 σ _ (xs (nI (i + 1)).toNatClampNeg) _ hwc) (lrc_5 hE.2.2.1.1 hE.2.2.2.1.1 hP) hE.2.2.2.1.1 hE.2.2.2.2.1 hP hP2 hS rfl hl.1 rfl (Nat.le_of_ble_eq_true rfl) dL_law_1086 ⟨hcl, hsl⟩ (fun r1 σ2 H locs hr1 hP hP2 hS => ?_)
  refine lv_aload_n hx hb dL_law_1089 rfl (lv_at hl 1 rfl) ?_
  refine lv_aload_n hx hb dL_law_1090 rfl (lv_at hl 3 rfl) ?_
  refine lv_iload_n hx hb dL_law_1091 rfl (lv_at hl 0 rfl) ?_
  refine lv_iconst (v := nI 1) hx hb dL_law_1092 (by decide) ?_
  refine lv_iadd hx hb dL_law_1093 ?_
  rw [nI_p]
  refine va_sld hx hb hX hbl hbA hS (in_p hi hL (k := 1) (by decide)) dL_law_1094 ?_
  refine lc_I (Z := ZM) (Z2 := ZC) (As := [.int (xs (nI (i + 1)).toNatClampNeg)]) (rest := [.int r1]) ⟨hx, hb, hml, hown, hts⟩ (cwV 1 hts gL_law_X6_write rfl rfl rfl hd_X6_write ⟨Nat.le_of_ble_eq_true rfl, Nat.le_of_ble_eq_true rfl⟩) (mt_X6_write l hE.2.2.1.2 τ _ (xs (nI (i + 1)).toNatClampNeg) _ hwm) (lrc_6 hE.2.2.1.2 hE.2.2.2.1.2 hP2) hE.2.2.2.1.2 hE.2.2.2.2.2 hP2 hP hS rfl hl.1 rfl (Nat.le_of_ble_eq_true rfl) dL_law_1095 ⟨hcl, hsl⟩ (fun r2 τ2 H locs hr2 hP2 hP hS => ?_)
  refine lv_icmp_eq (tgt := 1183) hx hb dL_law_1098 (by decide) (fun _ => hk _ _ _ _ _ hA2 hr1.1 hr2.1 hP hP2 hS) (fun h9 => absurd (hr1.2.trans hr2.2.symm) h9)
set_option maxHeartbeats 4000000 in
set_option maxRecDepth 100000 in
theorem law_c30 {p : Program} {l : Launch} {e : Env} {s : State} {m : MethodId} {below : List Frame} {meth : Method} {c : Code} {b L : Nat} {xs : Nat → Int32} {ZC ZM : ZW} (hE : LE p s m meth c b L xs ZC ZM) {i : Nat} (hi : i + 6 ≤ L) (hL : L ≤ 3072) {Q : State → Prop} {cells slots : Nat} (hcl : cells ≤ room_1.cells) (hsl : slots ≤ room_1.slots) {σ τ : SS} {a : AT} {H : Heap} {locs : List Loc} {ls : Array Slot} (hA : AB a) (hC : CI σ a) (hM : MI τ a) (hP : PZ ZC σ H) (hP2 : PZ ZM τ H) (hS : va_S (A0 s) s.heap H locs) (hl : lv_has ls 4 (lvL b i ZC ZM)) (hk : ∀ (σ τ : SS) (a : AT) (H : Heap) (locs : List Loc), AB a → CI σ a → MI τ a → PZ ZC σ H → PZ ZM τ H → va_S (A0 s) s.heap H locs → W p l e room_1 s m #[Value.ref b] below meth c H locs cells slots Q (F0 m 1183 ls [])) : W p l e room_1 s m #[Value.ref b] below meth c H locs cells slots Q (F0 m 1103 ls []) := by
  obtain ⟨hx, hb, hr, hml, hown, hts0, hX, hbl, hlocks, hgv⟩ := hE.1
  have hts := hE.2.1
  have hown : s.vm.findClass RL = some m.cls := hown
  have hb : c.code = cL_law := hb
  have hbA : ¬ A0 s b := Nat.not_le.mpr hbl
  refine lv_aload_n hx hb dL_law_1103 rfl (lv_at hl 2 rfl) ?_
  refine lv_aload_n hx hb dL_law_1104 rfl (lv_at hl 3 rfl) ?_
  refine lv_iload_n hx hb dL_law_1105 rfl (lv_at hl 0 rfl) ?_
  refine lv_iconst (v := nI 1) hx hb dL_law_1106 (by decide) ?_
  refine lv_iadd hx hb dL_law_1107 ?_
  rw [nI_p]
  refine va_sld hx hb hX hbl hbA hS (in_p hi hL (k := 1) (by decide)) dL_law_1108 ?_
  refine lv_aload_n hx hb dL_law_1109 rfl (lv_at hl 3 rfl) ?_
  refine lv_iload_n hx hb dL_law_1110 rfl (lv_at hl 0 rfl) ?_
  refine lv_iconst (v := nI 2) hx hb dL_law_1111 (by decide) ?_
  refine lv_iadd hx hb dL_law_1112 ?_
  rw [nI_p]
  refine va_sld hx hb hX hbl hbA hS (in_p hi hL (k := 2) (by decide)) dL_law_1113 ?_
  refine lv_aload_n hx hb dL_law_1114 rfl (lv_at hl 3 rfl) ?_
  refine lv_iload_n hx hb dL_law_1115 rfl (lv_at hl 0 rfl) ?_
  refine lv_iconst (v := nI 3) hx hb dL_law_1116 (by decide) ?_
  refine lv_iadd hx hb dL_law_1117 ?_
  rw [nI_p]
  refine va_sld hx hb hX hbl hbA hS (in_p hi hL (k := 3) (by decide)) dL_law_1118 ?_
  obtain ⟨rr, a2, hA2, hwc, hwm⟩ := p_found hA hC hM (xs (nI (i + 1)).toNatClampNeg) (xs (nI (i + 2)).toNatClampNeg) (xs (nI (i + 3)).toNatClampNeg)
  refine lc_I (Z := ZC) (Z2 := ZM) (As := [.int (xs (nI (i + 1)).toNatClampNeg), .int (xs (nI (i + 2)).toNatClampNeg), .int (xs (nI (i + 3)).toNatClampNeg)]) (rest := []) ⟨hx, hb, hml, hown, hts⟩ (cwV 3 hts gL_law_X5_found rfl rfl rfl hd_X5_found ⟨Nat.le_of_ble_eq_true rfl, Nat.le_of_ble_eq_true rfl⟩) (mt_X5_found l hE.2.2.1.1 σ _ (xs (nI (i + 1)).toNatClampNeg) (xs (nI (i + 2)).toNatClampNeg) (xs (nI (i + 3)).toNatClampNeg) _ hwc) (lrc_5 hE.2.2.1.1 hE.2.2.2.1.1 hP) hE.2.2.2.1.1 hE.2.2.2.2.1 hP hP2 hS rfl hl.1 rfl (Nat.le_of_ble_eq_true rfl) dL_law_1119 ⟨hcl, hsl⟩ (fun r1 σ2 H locs hr1 hP hP2 hS => ?_)
  refine lv_aload_n hx hb dL_law_1122 rfl (lv_at hl 1 rfl) ?_
  refine lv_aload_n hx hb dL_law_1123 rfl (lv_at hl 3 rfl) ?_
  refine lv_iload_n hx hb dL_law_1124 rfl (lv_at hl 0 rfl) ?_
  refine lv_iconst (v := nI 1) hx hb dL_law_1125 (by decide) ?_
  refine lv_iadd hx hb dL_law_1126 ?_
  rw [nI_p]
  refine va_sld hx hb hX hbl hbA hS (in_p hi hL (k := 1) (by decide)) dL_law_1127 ?_
  refine lv_aload_n hx hb dL_law_1128 rfl (lv_at hl 3 rfl) ?_
  refine lv_iload_n hx hb dL_law_1129 rfl (lv_at hl 0 rfl) ?_
  refine lv_iconst (v := nI 2) hx hb dL_law_1130 (by decide) ?_
  refine lv_iadd hx hb dL_law_1131 ?_
  rw [nI_p]
  refine va_sld hx hb hX hbl hbA hS (in_p hi hL (k := 2) (by decide)) dL_law_1132 ?_
  refine lv_aload_n hx hb dL_law_1133 rfl (lv_at hl 3 rfl) ?_
  refine lv_iload_n hx hb dL_law_1134 rfl (lv_at hl 0 rfl) ?_
  refine lv_iconst (v := nI 3) hx hb dL_law_1135 (by decide) ?_
  refine lv_iadd hx hb dL_law_1136 ?_
  rw [nI_p]
  refine va_sld hx hb hX hbl hbA hS (in_p hi hL (k := 3) (by decide)) dL_law_1137 ?_
  refine lc_I (Z := ZM) (Z2 := ZC) (As := [.int (xs (nI (i + 1)).toNatClampNeg), .int (xs (nI (i + 2)).toNatClampNeg), .int (xs (nI (i + 3)).toNatClampNeg)]) (rest := [.int r1]) ⟨hx, hb, hml, hown, hts⟩ (cwV 3 hts gL_law_X6_found rfl rfl rfl hd_X6_found ⟨Nat.le_of_ble_eq_true rfl, Nat.le_of_ble_eq_true rfl⟩) (mt_X6_found l hE.2.2.1.2 τ _ (xs (nI (i + 1)).toNatClampNeg) (xs (nI (i + 2)).toNatClampNeg) (xs (nI (i + 3)).toNatClampNeg) _ hwm) (lrc_6 hE.2.2.1.2 hE.2.2.2.1.2 hP2) hE.2.2.2.1.2 hE.2.2.2.2.2 hP2 hP hS rfl hl.1 rfl (Nat.le_of_ble_eq_true rfl) dL_law_1138 ⟨hcl, hsl⟩ (fun r2 τ2 H locs hr2 hP2 hP hS => ?_)
  refine lv_icmp_eq (tgt := 1183) hx hb dL_law_1141 (by decide) (fun _ => hk _ _ _ _ _ hA2 hr1.1 hr2.1 hP hP2 hS) (fun h9 => absurd (hr1.2.trans hr2.2.symm) h9)
set_option maxHeartbeats 4000000 in
set_option maxRecDepth 100000 in
theorem law_c31 {p : Program} {l : Launch} {e : Env} {s : State} {m : MethodId} {below : List Frame} {meth : Method} {c : Code} {b L : Nat} {xs : Nat → Int32} {ZC ZM : ZW} (hE : LE p s m meth c b L xs ZC ZM) {i : Nat} (hi : i + 6 ≤ L) (hL : L ≤ 3072) {Q : State → Prop} {cells slots : Nat} (hcl : cells ≤ room_1.cells) (hsl : slots ≤ room_1.slots) {σ τ : SS} {a : AT} {H : Heap} {locs : List Loc} {ls : Array Slot} (hA : AB a) (hC : CI σ a) (hM : MI τ a) (hP : PZ ZC σ H) (hP2 : PZ ZM τ H) (hS : va_S (A0 s) s.heap H locs) (hl : lv_has ls 4 (lvL b i ZC ZM)) (hk : ∀ (σ τ : SS) (a : AT) (H : Heap) (locs : List Loc), AB a → CI σ a → MI τ a → PZ ZC σ H → PZ ZM τ H → va_S (A0 s) s.heap H locs → W p l e room_1 s m #[Value.ref b] below meth c H locs cells slots Q (F0 m 1183 ls [])) : W p l e room_1 s m #[Value.ref b] below meth c H locs cells slots Q (F0 m 1146 ls []) := by
  obtain ⟨hx, hb, hr, hml, hown, hts0, hX, hbl, hlocks, hgv⟩ := hE.1
  have hts := hE.2.1
  have hown : s.vm.findClass RL = some m.cls := hown
  have hb : c.code = cL_law := hb
  have hbA : ¬ A0 s b := Nat.not_le.mpr hbl
  refine lv_aload_n hx hb dL_law_1146 rfl (lv_at hl 2 rfl) ?_
  refine lv_aload_n hx hb dL_law_1147 rfl (lv_at hl 3 rfl) ?_
  refine lv_iload_n hx hb dL_law_1148 rfl (lv_at hl 0 rfl) ?_
  refine lv_iconst (v := nI 1) hx hb dL_law_1149 (by decide) ?_
  refine lv_iadd hx hb dL_law_1150 ?_
  rw [nI_p]
  refine va_sld hx hb hX hbl hbA hS (in_p hi hL (k := 1) (by decide)) dL_law_1151 ?_
  obtain ⟨rr, a2, hA2, hwc, hwm⟩ := p_count hA hC hM (xs (nI (i + 1)).toNatClampNeg)
  refine lc_I (Z := ZC) (Z2 := ZM) (As := [.int (xs (nI (i + 1)).toNatClampNeg)]) (rest := []) ⟨hx, hb, hml, hown, hts⟩ (cwV 1 hts gL_law_X5_count rfl rfl rfl hd_X5_count ⟨Nat.le_of_ble_eq_true rfl, Nat.le_of_ble_eq_true rfl⟩) (mt_X5_count l hE.2.2.1.1 σ _ (xs (nI (i + 1)).toNatClampNeg) _ hwc) (lrc_5 hE.2.2.1.1 hE.2.2.2.1.1 hP) hE.2.2.2.1.1 hE.2.2.2.2.1 hP hP2 hS rfl hl.1 rfl (Nat.le_of_ble_eq_true rfl) dL_law_1152 ⟨hcl, hsl⟩ (fun r1 σ2 H locs hr1 hP hP2 hS => ?_)
  refine lv_aload_n hx hb dL_law_1155 rfl (lv_at hl 1 rfl) ?_
  refine lv_aload_n hx hb dL_law_1156 rfl (lv_at hl 3 rfl) ?_
  refine lv_iload_n hx hb dL_law_1157 rfl (lv_at hl 0 rfl) ?_
  refine lv_iconst (v := nI 1) hx hb dL_law_1158 (by decide) ?_
  refine lv_iadd hx hb dL_law_1159 ?_
  rw [nI_p]
  refine va_sld hx hb hX hbl hbA hS (in_p hi hL (k := 1) (by decide)) dL_law_1160 ?_
  refine lc_I (Z := ZM) (Z2 := ZC) (As := [.int (xs (nI (i + 1)).toNatClampNeg)]) (rest := [.int r1]) ⟨hx, hb, hml, hown, hts⟩ (cwV 1 hts gL_law_X6_count rfl rfl rfl hd_X6_count ⟨Nat.le_of_ble_eq_true rfl, Nat.le_of_ble_eq_true rfl⟩) (mt_X6_count l hE.2.2.1.2 τ _ (xs (nI (i + 1)).toNatClampNeg) _ hwm) (lrc_6 hE.2.2.1.2 hE.2.2.2.1.2 hP2) hE.2.2.2.1.2 hE.2.2.2.2.2 hP2 hP hS rfl hl.1 rfl (Nat.le_of_ble_eq_true rfl) dL_law_1161 ⟨hcl, hsl⟩ (fun r2 τ2 H locs hr2 hP2 hP hS => ?_)
  refine lv_icmp_eq (tgt := 1183) hx hb dL_law_1164 (by decide) (fun _ => hk _ _ _ _ _ hA2 hr1.1 hr2.1 hP hP2 hS) (fun h9 => absurd (hr1.2.trans hr2.2.symm) h9)
set_option maxHeartbeats 4000000 in
set_option maxRecDepth 100000 in
theorem law_c32 {p : Program} {l : Launch} {e : Env} {s : State} {m : MethodId} {below : List Frame} {meth : Method} {c : Code} {b L : Nat} {xs : Nat → Int32} {ZC ZM : ZW} (hE : LE p s m meth c b L xs ZC ZM) {i : Nat} (hi : i + 6 ≤ L) (hL : L ≤ 3072) {Q : State → Prop} {cells slots : Nat} (hcl : cells ≤ room_1.cells) (hsl : slots ≤ room_1.slots) {σ τ : SS} {a : AT} {H : Heap} {locs : List Loc} {ls : Array Slot} (hA : AB a) (hC : CI σ a) (hM : MI τ a) (hP : PZ ZC σ H) (hP2 : PZ ZM τ H) (hS : va_S (A0 s) s.heap H locs) (hl : lv_has ls 4 (lvL b i ZC ZM)) (hk : ∀ (σ τ : SS) (a : AT) (H : Heap) (locs : List Loc), AB a → CI σ a → MI τ a → PZ ZC σ H → PZ ZM τ H → va_S (A0 s) s.heap H locs → W p l e room_1 s m #[Value.ref b] below meth c H locs cells slots Q (F0 m 1183 ls [])) : W p l e room_1 s m #[Value.ref b] below meth c H locs cells slots Q (F0 m 1169 ls []) := by
  obtain ⟨hx, hb, hr, hml, hown, hts0, hX, hbl, hlocks, hgv⟩ := hE.1
  have hts := hE.2.1
  have hown : s.vm.findClass RL = some m.cls := hown
  have hb : c.code = cL_law := hb
  have hbA : ¬ A0 s b := Nat.not_le.mpr hbl
  refine lv_aload_n hx hb dL_law_1169 rfl (lv_at hl 2 rfl) ?_
  obtain ⟨rr, a2, hA2, hwc, hwm⟩ := p_digest hA hC hM
  refine lc_L (Z := ZC) (Z2 := ZM) (As := []) (rest := []) ⟨hx, hb, hml, hown, hts⟩ (cwV 0 hts gL_law_X5_digest rfl rfl rfl hd_X5_digest ⟨Nat.le_of_ble_eq_true rfl, Nat.le_of_ble_eq_true rfl⟩) (mt_X5_digest l hE.2.2.1.1 σ _ _ hwc) (lrc_5 hE.2.2.1.1 hE.2.2.2.1.1 hP) hE.2.2.2.1.1 hE.2.2.2.2.1 hP hP2 hS rfl hl.1 rfl (Nat.le_of_ble_eq_true rfl) dL_law_1170 ⟨hcl, hsl⟩ (fun r1 σ2 H locs hr1 hP hP2 hS => ?_)
  refine lv_aload_n hx hb dL_law_1173 rfl (lv_at hl 1 rfl) ?_
  refine lc_L (Z := ZM) (Z2 := ZC) (As := []) (rest := [.long r1]) ⟨hx, hb, hml, hown, hts⟩ (cwV 0 hts gL_law_X6_digest rfl rfl rfl hd_X6_digest ⟨Nat.le_of_ble_eq_true rfl, Nat.le_of_ble_eq_true rfl⟩) (mt_X6_digest l hE.2.2.1.2 τ _ _ hwm) (lrc_6 hE.2.2.1.2 hE.2.2.2.1.2 hP2) hE.2.2.2.1.2 hE.2.2.2.2.2 hP2 hP hS rfl hl.1 rfl (Nat.le_of_ble_eq_true rfl) dL_law_1174 ⟨hcl, hsl⟩ (fun r2 τ2 H locs hr2 hP2 hP hS => ?_)
  refine W.lcmp hx hb dL_law_1177 ?_
  refine lv_if_eq (tgt := 1183) hx hb dL_law_1178 (by decide) (fun _ => hk _ _ _ _ _ hA2 hr1.1 hr2.1 hP hP2 hS) (fun h9 => absurd ((lg_cmp_eq _ _).mpr (hr1.2.trans hr2.2.symm)) h9)
