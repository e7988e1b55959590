set_option maxHeartbeats 4000000 in
set_option maxRecDepth 100000 in
theorem law_c0 {p : Program} {l : Launch} {e : Env} {s : State} {m : MethodId} {below : List Frame} {meth : Method} {c : Code} {g : va_G} {ts : ClassId × ClassId × ClassId} {Q : State → Prop} {b L : Nat} {xs : Nat → Int32} {a a2 : Nat → Nat} {σ τ : St} {H : Heap} {locs : List Loc} {cells slots k : Nat} {ls : Array Slot} {Rel Rel2 : St → St → Prop} (hstep : Step_0 Rel Rel2) (C : FX p s m #[Value.ref b] meth c RL cL_law 4 g ts (fun q : Nat => s.heap.size ≤ q)) (hO : va_AO "AsInBertha$Shelf" s) (hX : va_X b L xs s s.heap) (hbl : b < s.heap.size) (hbA : ¬ (fun q : Nat => s.heap.size ≤ q) b) (hL : L ≤ 3072) (hk6 : 6 * k + 6 ≤ L) (hRel : Rel σ τ) (hP : va_P g classes (WC ts a σ) H) (hPm : va_P g classes (WM ts a2 τ) H) (hD : va_D (fun q : Nat => s.heap.size ≤ q) (WC ts a σ ++ WM ts a2 τ)) (hS : va_S (fun q : Nat => s.heap.size ≤ q) s.heap H locs) (hcs : cells + 4 ≤ room_1.cells ∧ slots + 267 ≤ room_1.slots) (hl : lv_has ls 4 [(0, .ref b), (1, .ref (a 0)), (2, .ref (a2 0)), (3, .int (nI (6 * k)))]) (kk : ∀ (σ' τ' : St) (a' : Nat → Nat) (H : Heap) (locs : List Loc), Rel2 σ' τ' → keepA a a' → va_P g classes (WC ts a' σ') H → va_P g classes (WM ts a2 τ') H → va_D (fun q : Nat => s.heap.size ≤ q) (WC ts a' σ' ++ WM ts a2 τ') → va_S (fun q : Nat => s.heap.size ≤ q) s.heap H locs → W p l e room_1 s m #[Value.ref b] below meth c H locs (cells + 4) (slots + 267) Q (F0 m 1594 ls [])) : W p l e room_1 s m #[Value.ref b] below meth c H locs cells slots Q (F0 m 224 ls []) := by
  have hx := C.1
  have hb := C.2.1
  have hown := C.2.2.2.1
  have hts := C.2.2.2.2.1
  refine lv_aload_n hx hb dL_law_224 rfl (lv_at hl 1 rfl) ?_
  refine lv_aload_n hx hb dL_law_225 rfl (lv_at hl 0 rfl) ?_
  refine lv_iload_n hx hb dL_law_226 rfl (lv_at hl 3 rfl) ?_
  refine lv_iconst (v := 1) hx hb dL_law_227 (by decide) ?_
  refine lv_iadd hx hb dL_law_228 ?_
  refine va_sld hx hb hX hbl hbA hS (lx_in 1 hk6 hL (by decide)) dL_law_229 ?_
  refine lx_at 1 hk6 hL (by decide) ?_
  refine lv_aload_n hx hb dL_law_230 rfl (lv_at hl 0 rfl) ?_
  refine lv_iload_n hx hb dL_law_231 rfl (lv_at hl 3 rfl) ?_
  refine lv_iconst (v := 2) hx hb dL_law_232 (by decide) ?_
  refine lv_iadd hx hb dL_law_233 ?_
  refine va_sld hx hb hX hbl hbA hS (lx_in 2 hk6 hL (by decide)) dL_law_234 ?_
  refine lx_at 2 hk6 hL (by decide) ?_
  obtain ⟨r, σ', τ', hx1, hm1, hRel2⟩ := hstep σ τ (xs (6 * k + 1)) (xs (6 * k + 2)) hRel
  refine xI [] C hP hPm hD hS (c_X11_name hx1) mv_X11_name q_417 rv_X11 dL_law_235 ⟨Nat.le_of_ble_eq_true rfl, Nat.le_of_ble_eq_true rfl⟩ ⟨Nat.le_trans (Nat.le_add_right _ _) hcs.1, Nat.le_trans (Nat.le_add_right _ _) hcs.2⟩ rfl rfl (Nat.le_of_ble_eq_true rfl) hl.1 (fun H locs hP hPm hD hS => ?_)
  refine lv_aload_n hx hb dL_law_238 rfl (lv_at hl 2 rfl) ?_
  refine lv_aload_n hx hb dL_law_239 rfl (lv_at hl 0 rfl) ?_
  refine lv_iload_n hx hb dL_law_240 rfl (lv_at hl 3 rfl) ?_
  refine lv_iconst (v := 1) hx hb dL_law_241 (by decide) ?_
  refine lv_iadd hx hb dL_law_242 ?_
  refine va_sld hx hb hX hbl hbA hS (lx_in 1 hk6 hL (by decide)) dL_law_243 ?_
  refine lx_at 1 hk6 hL (by decide) ?_
  refine lv_aload_n hx hb dL_law_244 rfl (lv_at hl 0 rfl) ?_
  refine lv_iload_n hx hb dL_law_245 rfl (lv_at hl 3 rfl) ?_
  refine lv_iconst (v := 2) hx hb dL_law_246 (by decide) ?_
  refine lv_iadd hx hb dL_law_247 ?_
  refine va_sld hx hb hX hbl hbA hS (lx_in 2 hk6 hL (by decide)) dL_law_248 ?_
  refine lx_at 2 hk6 hL (by decide) ?_
  refine mI [.int r] C hP hPm hD hS (c_X12_name hm1) mv_X12_name q_1210 rv_X12 dL_law_249 ⟨Nat.le_of_ble_eq_true rfl, Nat.le_of_ble_eq_true rfl⟩ ⟨Nat.le_trans (Nat.le_add_right _ _) hcs.1, Nat.le_trans (Nat.le_add_right _ _) hcs.2⟩ rfl rfl (Nat.le_of_ble_eq_true rfl) hl.1 (fun H locs hP hPm hD hS => ?_)
  refine lv_icmp_eq (tgt := 1594) hx hb dL_law_252 (by decide) (fun _ => ?_) (fun z => absurd rfl z)
  refine W.widen (k := cells + 4) (n := slots + 267) (Nat.le_add_right _ _) (Nat.le_add_right _ _) ?_
  exact kk σ' τ' a H locs hRel2 (fun _ _ => rfl) hP hPm hD hS
set_option maxHeartbeats 4000000 in
set_option maxRecDepth 100000 in
theorem law_c1 {p : Program} {l : Launch} {e : Env} {s : State} {m : MethodId} {below : List Frame} {meth : Method} {c : Code} {g : va_G} {ts : ClassId × ClassId × ClassId} {Q : State → Prop} {b L : Nat} {xs : Nat → Int32} {a a2 : Nat → Nat} {σ τ : St} {H : Heap} {locs : List Loc} {cells slots k : Nat} {ls : Array Slot} {Rel Rel2 : St → St → Prop} (hstep : Step_1 Rel Rel2) (C : FX p s m #[Value.ref b] meth c RL cL_law 4 g ts (fun q : Nat => s.heap.size ≤ q)) (hO : va_AO "AsInBertha$Shelf" s) (hX : va_X b L xs s s.heap) (hbl : b < s.heap.size) (hbA : ¬ (fun q : Nat => s.heap.size ≤ q) b) (hL : L ≤ 3072) (hk6 : 6 * k + 6 ≤ L) (hRel : Rel σ τ) (hP : va_P g classes (WC ts a σ) H) (hPm : va_P g classes (WM ts a2 τ) H) (hD : va_D (fun q : Nat => s.heap.size ≤ q) (WC ts a σ ++ WM ts a2 τ)) (hS : va_S (fun q : Nat => s.heap.size ≤ q) s.heap H locs) (hcs : cells + 4 ≤ room_1.cells ∧ slots + 267 ≤ room_1.slots) (hl : lv_has ls 4 [(0, .ref b), (1, .ref (a 0)), (2, .ref (a2 0)), (3, .int (nI (6 * k)))]) (kk : ∀ (σ' τ' : St) (a' : Nat → Nat) (H : Heap) (locs : List Loc), Rel2 σ' τ' → keepA a a' → va_P g classes (WC ts a' σ') H → va_P g classes (WM ts a2 τ') H → va_D (fun q : Nat => s.heap.size ≤ q) (WC ts a' σ' ++ WM ts a2 τ') → va_S (fun q : Nat => s.heap.size ≤ q) s.heap H locs → W p l e room_1 s m #[Value.ref b] below meth c H locs (cells + 4) (slots + 267) Q (F0 m 1594 ls [])) : W p l e room_1 s m #[Value.ref b] below meth c H locs cells slots Q (F0 m 257 ls []) := by
  have hx := C.1
  have hb := C.2.1
  have hown := C.2.2.2.1
  have hts := C.2.2.2.2.1
  refine lv_aload_n hx hb dL_law_257 rfl (lv_at hl 1 rfl) ?_
  refine lv_aload_n hx hb dL_law_258 rfl (lv_at hl 0 rfl) ?_
  refine lv_iload_n hx hb dL_law_259 rfl (lv_at hl 3 rfl) ?_
  refine lv_iconst (v := 1) hx hb dL_law_260 (by decide) ?_
  refine lv_iadd hx hb dL_law_261 ?_
  refine va_sld hx hb hX hbl hbA hS (lx_in 1 hk6 hL (by decide)) dL_law_262 ?_
  refine lx_at 1 hk6 hL (by decide) ?_
  refine lv_aload_n hx hb dL_law_263 rfl (lv_at hl 0 rfl) ?_
  refine lv_iload_n hx hb dL_law_264 rfl (lv_at hl 3 rfl) ?_
  refine lv_iconst (v := 2) hx hb dL_law_265 (by decide) ?_
  refine lv_iadd hx hb dL_law_266 ?_
  refine va_sld hx hb hX hbl hbA hS (lx_in 2 hk6 hL (by decide)) dL_law_267 ?_
  refine lx_at 2 hk6 hL (by decide) ?_
  refine lv_aload_n hx hb dL_law_268 rfl (lv_at hl 0 rfl) ?_
  refine lv_iload_n hx hb dL_law_269 rfl (lv_at hl 3 rfl) ?_
  refine lv_iconst (v := 3) hx hb dL_law_270 (by decide) ?_
  refine lv_iadd hx hb dL_law_271 ?_
  refine va_sld hx hb hX hbl hbA hS (lx_in 3 hk6 hL (by decide)) dL_law_272 ?_
  refine lx_at 3 hk6 hL (by decide) ?_
  obtain ⟨r, σ', τ', hx1, hm1, hRel2⟩ := hstep σ τ (xs (6 * k + 1)) (xs (6 * k + 2)) (xs (6 * k + 3)) hRel
  refine xI [] C hP hPm hD hS (c_X11_mend hx1) mv_X11_mend q_457 rv_X11 dL_law_273 ⟨Nat.le_of_ble_eq_true rfl, Nat.le_of_ble_eq_true rfl⟩ ⟨Nat.le_trans (Nat.le_add_right _ _) hcs.1, Nat.le_trans (Nat.le_add_right _ _) hcs.2⟩ rfl rfl (Nat.le_of_ble_eq_true rfl) hl.1 (fun H locs hP hPm hD hS => ?_)
  refine lv_aload_n hx hb dL_law_276 rfl (lv_at hl 2 rfl) ?_
  refine lv_aload_n hx hb dL_law_277 rfl (lv_at hl 0 rfl) ?_
  refine lv_iload_n hx hb dL_law_278 rfl (lv_at hl 3 rfl) ?_
  refine lv_iconst (v := 1) hx hb dL_law_279 (by decide) ?_
  refine lv_iadd hx hb dL_law_280 ?_
  refine va_sld hx hb hX hbl hbA hS (lx_in 1 hk6 hL (by decide)) dL_law_281 ?_
  refine lx_at 1 hk6 hL (by decide) ?_
  refine lv_aload_n hx hb dL_law_282 rfl (lv_at hl 0 rfl) ?_
  refine lv_iload_n hx hb dL_law_283 rfl (lv_at hl 3 rfl) ?_
  refine lv_iconst (v := 2) hx hb dL_law_284 (by decide) ?_
  refine lv_iadd hx hb dL_law_285 ?_
  refine va_sld hx hb hX hbl hbA hS (lx_in 2 hk6 hL (by decide)) dL_law_286 ?_
  refine lx_at 2 hk6 hL (by decide) ?_
  refine lv_aload_n hx hb dL_law_287 rfl (lv_at hl 0 rfl) ?_
  refine lv_iload_n hx hb dL_law_288 rfl (lv_at hl 3 rfl) ?_
  refine lv_iconst (v := 3) hx hb dL_law_289 (by decide) ?_
  refine lv_iadd hx hb dL_law_290 ?_
  refine va_sld hx hb hX hbl hbA hS (lx_in 3 hk6 hL (by decide)) dL_law_291 ?_
  refine lx_at 3 hk6 hL (by decide) ?_
  refine mI [.int r] C hP hPm hD hS (c_X12_mend hm1) mv_X12_mend q_1234 rv_X12 dL_law_292 ⟨Nat.le_of_ble_eq_true rfl, Nat.le_of_ble_eq_true rfl⟩ ⟨Nat.le_trans (Nat.le_add_right _ _) hcs.1, Nat.le_trans (Nat.le_add_right _ _) hcs.2⟩ rfl rfl (Nat.le_of_ble_eq_true rfl) hl.1 (fun H locs hP hPm hD hS => ?_)
  refine lv_icmp_eq (tgt := 1594) hx hb dL_law_295 (by decide) (fun _ => ?_) (fun z => absurd rfl z)
  refine W.widen (k := cells + 4) (n := slots + 267) (Nat.le_add_right _ _) (Nat.le_add_right _ _) ?_
  exact kk σ' τ' a H locs hRel2 (fun _ _ => rfl) hP hPm hD hS
set_option maxHeartbeats 4000000 in
set_option maxRecDepth 100000 in
theorem law_c2 {p : Program} {l : Launch} {e : Env} {s : State} {m : MethodId} {below : List Frame} {meth : Method} {c : Code} {g : va_G} {ts : ClassId × ClassId × ClassId} {Q : State → Prop} {b L : Nat} {xs : Nat → Int32} {a a2 : Nat → Nat} {σ τ : St} {H : Heap} {locs : List Loc} {cells slots k : Nat} {ls : Array Slot} {Rel Rel2 : St → St → Prop} (hstep : Step_2 Rel Rel2) (C : FX p s m #[Value.ref b] meth c RL cL_law 4 g ts (fun q : Nat => s.heap.size ≤ q)) (hO : va_AO "AsInBertha$Shelf" s) (hX : va_X b L xs s s.heap) (hbl : b < s.heap.size) (hbA : ¬ (fun q : Nat => s.heap.size ≤ q) b) (hL : L ≤ 3072) (hk6 : 6 * k + 6 ≤ L) (hRel : Rel σ τ) (hP : va_P g classes (WC ts a σ) H) (hPm : va_P g classes (WM ts a2 τ) H) (hD : va_D (fun q : Nat => s.heap.size ≤ q) (WC ts a σ ++ WM ts a2 τ)) (hS : va_S (fun q : Nat => s.heap.size ≤ q) s.heap H locs) (hcs : cells + 4 ≤ room_1.cells ∧ slots + 267 ≤ room_1.slots) (hl : lv_has ls 4 [(0, .ref b), (1, .ref (a 0)), (2, .ref (a2 0)), (3, .int (nI (6 * k)))]) (kk : ∀ (σ' τ' : St) (a' : Nat → Nat) (H : Heap) (locs : List Loc), Rel2 σ' τ' → keepA a a' → va_P g classes (WC ts a' σ') H → va_P g classes (WM ts a2 τ') H → va_D (fun q : Nat => s.heap.size ≤ q) (WC ts a' σ' ++ WM ts a2 τ') → va_S (fun q : Nat => s.heap.size ≤ q) s.heap H locs → W p l e room_1 s m #[Value.ref b] below meth c H locs (cells + 4) (slots + 267) Q (F0 m 1594 ls [])) : W p l e room_1 s m #[Value.ref b] below meth c H locs cells slots Q (F0 m 300 ls []) := by
  have hx := C.1
  have hb := C.2.1
  have hown := C.2.2.2.1
  have hts := C.2.2.2.2.1
  refine lv_aload_n hx hb dL_law_300 rfl (lv_at hl 1 rfl) ?_
  refine lv_aload_n hx hb dL_law_301 rfl (lv_at hl 0 rfl) ?_
  refine lv_iload_n hx hb dL_law_302 rfl (lv_at hl 3 rfl) ?_
  refine lv_iconst (v := 1) hx hb dL_law_303 (by decide) ?_
  refine lv_iadd hx hb dL_law_304 ?_
  refine va_sld hx hb hX hbl hbA hS (lx_in 1 hk6 hL (by decide)) dL_law_305 ?_
  refine lx_at 1 hk6 hL (by decide) ?_
  refine lv_aload_n hx hb dL_law_306 rfl (lv_at hl 0 rfl) ?_
  refine lv_iload_n hx hb dL_law_307 rfl (lv_at hl 3 rfl) ?_
  refine lv_iconst (v := 2) hx hb dL_law_308 (by decide) ?_
  refine lv_iadd hx hb dL_law_309 ?_
  refine va_sld hx hb hX hbl hbA hS (lx_in 2 hk6 hL (by decide)) dL_law_310 ?_
  refine lx_at 2 hk6 hL (by decide) ?_
  obtain ⟨r, σ', τ', hx1, hm1, hRel2⟩ := hstep σ τ (xs (6 * k + 1)) (xs (6 * k + 2)) hRel
  refine xI [] C hP hPm hD hS (c_X11_of hx1) mv_X11_of q_496 rv_X11 dL_law_311 ⟨Nat.le_of_ble_eq_true rfl, Nat.le_of_ble_eq_true rfl⟩ ⟨Nat.le_trans (Nat.le_add_right _ _) hcs.1, Nat.le_trans (Nat.le_add_right _ _) hcs.2⟩ rfl rfl (Nat.le_of_ble_eq_true rfl) hl.1 (fun H locs hP hPm hD hS => ?_)
  refine lv_aload_n hx hb dL_law_314 rfl (lv_at hl 2 rfl) ?_
  refine lv_aload_n hx hb dL_law_315 rfl (lv_at hl 0 rfl) ?_
  refine lv_iload_n hx hb dL_law_316 rfl (lv_at hl 3 rfl) ?_
  refine lv_iconst (v := 1) hx hb dL_law_317 (by decide) ?_
  refine lv_iadd hx hb dL_law_318 ?_
  refine va_sld hx hb hX hbl hbA hS (lx_in 1 hk6 hL (by decide)) dL_law_319 ?_
  refine lx_at 1 hk6 hL (by decide) ?_
  refine lv_aload_n hx hb dL_law_320 rfl (lv_at hl 0 rfl) ?_
  refine lv_iload_n hx hb dL_law_321 rfl (lv_at hl 3 rfl) ?_
  refine lv_iconst (v := 2) hx hb dL_law_322 (by decide) ?_
  refine lv_iadd hx hb dL_law_323 ?_
  refine va_sld hx hb hX hbl hbA hS (lx_in 2 hk6 hL (by decide)) dL_law_324 ?_
  refine lx_at 2 hk6 hL (by decide) ?_
  refine mI [.int r] C hP hPm hD hS (c_X12_of hm1) mv_X12_of q_1258 rv_X12 dL_law_325 ⟨Nat.le_of_ble_eq_true rfl, Nat.le_of_ble_eq_true rfl⟩ ⟨Nat.le_trans (Nat.le_add_right _ _) hcs.1, Nat.le_trans (Nat.le_add_right _ _) hcs.2⟩ rfl rfl (Nat.le_of_ble_eq_true rfl) hl.1 (fun H locs hP hPm hD hS => ?_)
  refine lv_icmp_eq (tgt := 1594) hx hb dL_law_328 (by decide) (fun _ => ?_) (fun z => absurd rfl z)
  refine W.widen (k := cells + 4) (n := slots + 267) (Nat.le_add_right _ _) (Nat.le_add_right _ _) ?_
  exact kk σ' τ' a H locs hRel2 (fun _ _ => rfl) hP hPm hD hS
set_option maxHeartbeats 4000000 in
set_option maxRecDepth 100000 in
theorem law_c3 {p : Program} {l : Launch} {e : Env} {s : State} {m : MethodId} {below : List Frame} {meth : Method} {c : Code} {g : va_G} {ts : ClassId × ClassId × ClassId} {Q : State → Prop} {b L : Nat} {xs : Nat → Int32} {a a2 : Nat → Nat} {σ τ : St} {H : Heap} {locs : List Loc} {cells slots k : Nat} {ls : Array Slot} {Rel Rel2 : St → St → Prop} (hstep : Step_3 Rel Rel2) (C : FX p s m #[Value.ref b] meth c RL cL_law 4 g ts (fun q : Nat => s.heap.size ≤ q)) (hO : va_AO "AsInBertha$Shelf" s) (hX : va_X b L xs s s.heap) (hbl : b < s.heap.size) (hbA : ¬ (fun q : Nat => s.heap.size ≤ q) b) (hL : L ≤ 3072) (hk6 : 6 * k + 6 ≤ L) (hRel : Rel σ τ) (hP : va_P g classes (WC ts a σ) H) (hPm : va_P g classes (WM ts a2 τ) H) (hD : va_D (fun q : Nat => s.heap.size ≤ q) (WC ts a σ ++ WM ts a2 τ)) (hS : va_S (fun q : Nat => s.heap.size ≤ q) s.heap H locs) (hcs : cells + 4 ≤ room_1.cells ∧ slots + 267 ≤ room_1.slots) (hl : lv_has ls 4 [(0, .ref b), (1, .ref (a 0)), (2, .ref (a2 0)), (3, .int (nI (6 * k)))]) (kk : ∀ (σ' τ' : St) (a' : Nat → Nat) (H : Heap) (locs : List Loc), Rel2 σ' τ' → keepA a a' → va_P g classes (WC ts a' σ') H → va_P g classes (WM ts a2 τ') H → va_D (fun q : Nat => s.heap.size ≤ q) (WC ts a' σ' ++ WM ts a2 τ') → va_S (fun q : Nat => s.heap.size ≤ q) s.heap H locs → W p l e room_1 s m #[Value.ref b] below meth c H locs (cells + 4) (slots + 267) Q (F0 m 1594 ls [])) : W p l e room_1 s m #[Value.ref b] below meth c H locs cells slots Q (F0 m 333 ls []) := by
  have hx := C.1
  have hb := C.2.1
  have hown := C.2.2.2.1
  have hts := C.2.2.2.2.1
  refine lv_aload_n hx hb dL_law_333 rfl (lv_at hl 1 rfl) ?_
  refine lv_aload_n hx hb dL_law_334 rfl (lv_at hl 0 rfl) ?_
  refine lv_iload_n hx hb dL_law_335 rfl (lv_at hl 3 rfl) ?_
  refine lv_iconst (v := 1) hx hb dL_law_336 (by decide) ?_
  refine lv_iadd hx hb dL_law_337 ?_
  refine va_sld hx hb hX hbl hbA hS (lx_in 1 hk6 hL (by decide)) dL_law_338 ?_
  refine lx_at 1 hk6 hL (by decide) ?_
  refine lv_aload_n hx hb dL_law_339 rfl (lv_at hl 0 rfl) ?_
  refine lv_iload_n hx hb dL_law_340 rfl (lv_at hl 3 rfl) ?_
  refine lv_iconst (v := 2) hx hb dL_law_341 (by decide) ?_
  refine lv_iadd hx hb dL_law_342 ?_
  refine va_sld hx hb hX hbl hbA hS (lx_in 2 hk6 hL (by decide)) dL_law_343 ?_
  refine lx_at 2 hk6 hL (by decide) ?_
  obtain ⟨r, σ', τ', hx1, hm1, hRel2⟩ := hstep σ τ (xs (6 * k + 1)) (xs (6 * k + 2)) hRel
  refine xI [] C hP hPm hD hS (c_X11_letter hx1) mv_X11_letter q_500 rv_X11 dL_law_344 ⟨Nat.le_of_ble_eq_true rfl, Nat.le_of_ble_eq_true rfl⟩ ⟨Nat.le_trans (Nat.le_add_right _ _) hcs.1, Nat.le_trans (Nat.le_add_right _ _) hcs.2⟩ rfl rfl (Nat.le_of_ble_eq_true rfl) hl.1 (fun H locs hP hPm hD hS => ?_)
  refine lv_aload_n hx hb dL_law_347 rfl (lv_at hl 2 rfl) ?_
  refine lv_aload_n hx hb dL_law_348 rfl (lv_at hl 0 rfl) ?_
  refine lv_iload_n hx hb dL_law_349 rfl (lv_at hl 3 rfl) ?_
  refine lv_iconst (v := 1) hx hb dL_law_350 (by decide) ?_
  refine lv_iadd hx hb dL_law_351 ?_
  refine va_sld hx hb hX hbl hbA hS (lx_in 1 hk6 hL (by decide)) dL_law_352 ?_
  refine lx_at 1 hk6 hL (by decide) ?_
  refine lv_aload_n hx hb dL_law_353 rfl (lv_at hl 0 rfl) ?_
  refine lv_iload_n hx hb dL_law_354 rfl (lv_at hl 3 rfl) ?_
  refine lv_iconst (v := 2) hx hb dL_law_355 (by decide) ?_
  refine lv_iadd hx hb dL_law_356 ?_
  refine va_sld hx hb hX hbl hbA hS (lx_in 2 hk6 hL (by decide)) dL_law_357 ?_
  refine lx_at 2 hk6 hL (by decide) ?_
  refine mI [.int r] C hP hPm hD hS (c_X12_letter hm1) mv_X12_letter q_1262 rv_X12 dL_law_358 ⟨Nat.le_of_ble_eq_true rfl, Nat.le_of_ble_eq_true rfl⟩ ⟨Nat.le_trans (Nat.le_add_right _ _) hcs.1, Nat.le_trans (Nat.le_add_right _ _) hcs.2⟩ rfl rfl (Nat.le_of_ble_eq_true rfl) hl.1 (fun H locs hP hPm hD hS => ?_)
  refine lv_icmp_eq (tgt := 1594) hx hb dL_law_361 (by decide) (fun _ => ?_) (fun z => absurd rfl z)
  refine W.widen (k := cells + 4) (n := slots + 267) (Nat.le_add_right _ _) (Nat.le_add_right _ _) ?_
  exact kk σ' τ' a H locs hRel2 (fun _ _ => rfl) hP hPm hD hS
set_option maxHeartbeats 4000000 in
set_option maxRecDepth 100000 in
theorem law_c4 {p : Program} {l : Launch} {e : Env} {s : State} {m : MethodId} {below : List Frame} {meth : Method} {c : Code} {g : va_G} {ts : ClassId × ClassId × ClassId} {Q : State → Prop} {b L : Nat} {xs : Nat → Int32} {a a2 : Nat → Nat} {σ τ : St} {H : Heap} {locs : List Loc} {cells slots k : Nat} {ls : Array Slot} {Rel Rel2 : St → St → Prop} (hstep : Step_4 Rel Rel2) (C : FX p s m #[Value.ref b] meth c RL cL_law 4 g ts (fun q : Nat => s.heap.size ≤ q)) (hO : va_AO "AsInBertha$Shelf" s) (hX : va_X b L xs s s.heap) (hbl : b < s.heap.size) (hbA : ¬ (fun q : Nat => s.heap.size ≤ q) b) (hL : L ≤ 3072) (hk6 : 6 * k + 6 ≤ L) (hRel : Rel σ τ) (hP : va_P g classes (WC ts a σ) H) (hPm : va_P g classes (WM ts a2 τ) H) (hD : va_D (fun q : Nat => s.heap.size ≤ q) (WC ts a σ ++ WM ts a2 τ)) (hS : va_S (fun q : Nat => s.heap.size ≤ q) s.heap H locs) (hcs : cells + 4 ≤ room_1.cells ∧ slots + 267 ≤ room_1.slots) (hl : lv_has ls 4 [(0, .ref b), (1, .ref (a 0)), (2, .ref (a2 0)), (3, .int (nI (6 * k)))]) (kk : ∀ (σ' τ' : St) (a' : Nat → Nat) (H : Heap) (locs : List Loc), Rel2 σ' τ' → keepA a a' → va_P g classes (WC ts a' σ') H → va_P g classes (WM ts a2 τ') H → va_D (fun q : Nat => s.heap.size ≤ q) (WC ts a' σ' ++ WM ts a2 τ') → va_S (fun q : Nat => s.heap.size ≤ q) s.heap H locs → W p l e room_1 s m #[Value.ref b] below meth c H locs (cells + 4) (slots + 267) Q (F0 m 1594 ls [])) : W p l e room_1 s m #[Value.ref b] below meth c H locs cells slots Q (F0 m 366 ls []) := by
  have hx := C.1
  have hb := C.2.1
  have hown := C.2.2.2.1
  have hts := C.2.2.2.2.1
  refine lv_aload_n hx hb dL_law_366 rfl (lv_at hl 1 rfl) ?_
  refine lv_aload_n hx hb dL_law_367 rfl (lv_at hl 0 rfl) ?_
  refine lv_iload_n hx hb dL_law_368 rfl (lv_at hl 3 rfl) ?_
  refine lv_iconst (v := 1) hx hb dL_law_369 (by decide) ?_
  refine lv_iadd hx hb dL_law_370 ?_
  refine va_sld hx hb hX hbl hbA hS (lx_in 1 hk6 hL (by decide)) dL_law_371 ?_
  refine lx_at 1 hk6 hL (by decide) ?_
  obtain ⟨r, σ', τ', hx1, hm1, hRel2⟩ := hstep σ τ (xs (6 * k + 1)) hRel
  refine xI [] C hP hPm hD hS (c_X11_feed hx1) mv_X11_feed q_508 rv_X11 dL_law_372 ⟨Nat.le_of_ble_eq_true rfl, Nat.le_of_ble_eq_true rfl⟩ ⟨Nat.le_trans (Nat.le_add_right _ _) hcs.1, Nat.le_trans (Nat.le_add_right _ _) hcs.2⟩ rfl rfl (Nat.le_of_ble_eq_true rfl) hl.1 (fun H locs hP hPm hD hS => ?_)
  refine lv_aload_n hx hb dL_law_375 rfl (lv_at hl 2 rfl) ?_
  refine lv_aload_n hx hb dL_law_376 rfl (lv_at hl 0 rfl) ?_
  refine lv_iload_n hx hb dL_law_377 rfl (lv_at hl 3 rfl) ?_
  refine lv_iconst (v := 1) hx hb dL_law_378 (by decide) ?_
  refine lv_iadd hx hb dL_law_379 ?_
  refine va_sld hx hb hX hbl hbA hS (lx_in 1 hk6 hL (by decide)) dL_law_380 ?_
  refine lx_at 1 hk6 hL (by decide) ?_
  refine mI [.int r] C hP hPm hD hS (c_X12_feed hm1) mv_X12_feed q_1270 rv_X12 dL_law_381 ⟨Nat.le_of_ble_eq_true rfl, Nat.le_of_ble_eq_true rfl⟩ ⟨Nat.le_trans (Nat.le_add_right _ _) hcs.1, Nat.le_trans (Nat.le_add_right _ _) hcs.2⟩ rfl rfl (Nat.le_of_ble_eq_true rfl) hl.1 (fun H locs hP hPm hD hS => ?_)
  refine lv_icmp_eq (tgt := 1594) hx hb dL_law_384 (by decide) (fun _ => ?_) (fun z => absurd rfl z)
  refine W.widen (k := cells + 4) (n := slots + 267) (Nat.le_add_right _ _) (Nat.le_add_right _ _) ?_
  exact kk σ' τ' a H locs hRel2 (fun _ _ => rfl) hP hPm hD hS
set_option maxHeartbeats 4000000 in
set_option maxRecDepth 100000 in
theorem law_c5 {p : Program} {l : Launch} {e : Env} {s : State} {m : MethodId} {below : List Frame} {meth : Method} {c : Code} {g : va_G} {ts : ClassId × ClassId × ClassId} {Q : State → Prop} {b L : Nat} {xs : Nat → Int32} {a a2 : Nat → Nat} {σ τ : St} {H : Heap} {locs : List Loc} {cells slots k : Nat} {ls : Array Slot} {Rel Rel2 : St → St → Prop} (hstep : Step_5 Rel Rel2) (C : FX p s m #[Value.ref b] meth c RL cL_law 4 g ts (fun q : Nat => s.heap.size ≤ q)) (hO : va_AO "AsInBertha$Shelf" s) (hX : va_X b L xs s s.heap) (hbl : b < s.heap.size) (hbA : ¬ (fun q : Nat => s.heap.size ≤ q) b) (hL : L ≤ 3072) (hk6 : 6 * k + 6 ≤ L) (hRel : Rel σ τ) (hP : va_P g classes (WC ts a σ) H) (hPm : va_P g classes (WM ts a2 τ) H) (hD : va_D (fun q : Nat => s.heap.size ≤ q) (WC ts a σ ++ WM ts a2 τ)) (hS : va_S (fun q : Nat => s.heap.size ≤ q) s.heap H locs) (hcs : cells + 4 ≤ room_1.cells ∧ slots + 267 ≤ room_1.slots) (hl : lv_has ls 4 [(0, .ref b), (1, .ref (a 0)), (2, .ref (a2 0)), (3, .int (nI (6 * k)))]) (kk : ∀ (σ' τ' : St) (a' : Nat → Nat) (H : Heap) (locs : List Loc), Rel2 σ' τ' → keepA a a' → va_P g classes (WC ts a' σ') H → va_P g classes (WM ts a2 τ') H → va_D (fun q : Nat => s.heap.size ≤ q) (WC ts a' σ' ++ WM ts a2 τ') → va_S (fun q : Nat => s.heap.size ≤ q) s.heap H locs → W p l e room_1 s m #[Value.ref b] below meth c H locs (cells + 4) (slots + 267) Q (F0 m 1594 ls [])) : W p l e room_1 s m #[Value.ref b] below meth c H locs cells slots Q (F0 m 389 ls []) := by
  have hx := C.1
  have hb := C.2.1
  have hown := C.2.2.2.1
  have hts := C.2.2.2.2.1
  refine lv_aload_n hx hb dL_law_389 rfl (lv_at hl 1 rfl) ?_
  obtain ⟨r, σ', τ', hx1, hm1, hRel2⟩ := hstep σ τ  hRel
  refine xA [] C hO hP hPm hD hS (c_X11_law hx1) mv_X11_law q_516 rv_X11 dL_law_390 ⟨Nat.le_of_ble_eq_true rfl, Nat.le_of_ble_eq_true rfl⟩ hcs rfl rfl (Nat.le_of_ble_eq_true rfl) hl.1 (fun a' H locs hka hP hPm hD hS => ?_)
  refine lv_aload_n hx hb dL_law_393 rfl (lv_at hl 2 rfl) ?_
  refine mI [.int r] C hP hPm hD hS (c_X12_law hm1) mv_X12_law q_1275 rv_X12 dL_law_394 ⟨Nat.le_of_ble_eq_true rfl, Nat.le_of_ble_eq_true rfl⟩ hcs rfl rfl (Nat.le_of_ble_eq_true rfl) hl.1 (fun H locs hP hPm hD hS => ?_)
  refine lv_icmp_eq (tgt := 1594) hx hb dL_law_397 (by decide) (fun _ => ?_) (fun z => absurd rfl z)
  exact kk σ' τ' a' H locs hRel2 hka hP hPm hD hS
set_option maxHeartbeats 4000000 in
set_option maxRecDepth 100000 in
theorem law_c6 {p : Program} {l : Launch} {e : Env} {s : State} {m : MethodId} {below : List Frame} {meth : Method} {c : Code} {g : va_G} {ts : ClassId × ClassId × ClassId} {Q : State → Prop} {b L : Nat} {xs : Nat → Int32} {a a2 : Nat → Nat} {σ τ : St} {H : Heap} {locs : List Loc} {cells slots k : Nat} {ls : Array Slot} {Rel Rel2 : St → St → Prop} (hstep : Step_6 Rel Rel2) (C : FX p s m #[Value.ref b] meth c RL cL_law 4 g ts (fun q : Nat => s.heap.size ≤ q)) (hO : va_AO "AsInBertha$Shelf" s) (hX : va_X b L xs s s.heap) (hbl : b < s.heap.size) (hbA : ¬ (fun q : Nat => s.heap.size ≤ q) b) (hL : L ≤ 3072) (hk6 : 6 * k + 6 ≤ L) (hRel : Rel σ τ) (hP : va_P g classes (WC ts a σ) H) (hPm : va_P g classes (WM ts a2 τ) H) (hD : va_D (fun q : Nat => s.heap.size ≤ q) (WC ts a σ ++ WM ts a2 τ)) (hS : va_S (fun q : Nat => s.heap.size ≤ q) s.heap H locs) (hcs : cells + 4 ≤ room_1.cells ∧ slots + 267 ≤ room_1.slots) (hl : lv_has ls 4 [(0, .ref b), (1, .ref (a 0)), (2, .ref (a2 0)), (3, .int (nI (6 * k)))]) (kk : ∀ (σ' τ' : St) (a' : Nat → Nat) (H : Heap) (locs : List Loc), Rel2 σ' τ' → keepA a a' → va_P g classes (WC ts a' σ') H → va_P g classes (WM ts a2 τ') H → va_D (fun q : Nat => s.heap.size ≤ q) (WC ts a' σ' ++ WM ts a2 τ') → va_S (fun q : Nat => s.heap.size ≤ q) s.heap H locs → W p l e room_1 s m #[Value.ref b] below meth c H locs (cells + 4) (slots + 267) Q (F0 m 1594 ls [])) : W p l e room_1 s m #[Value.ref b] below meth c H locs cells slots Q (F0 m 402 ls []) := by
  have hx := C.1
  have hb := C.2.1
  have hown := C.2.2.2.1
  have hts := C.2.2.2.2.1
  refine lv_aload_n hx hb dL_law_402 rfl (lv_at hl 1 rfl) ?_
  refine lv_aload_n hx hb dL_law_403 rfl (lv_at hl 0 rfl) ?_
  refine lv_iload_n hx hb dL_law_404 rfl (lv_at hl 3 rfl) ?_
  refine lv_iconst (v := 1) hx hb dL_law_405 (by decide) ?_
  refine lv_iadd hx hb dL_law_406 ?_
  refine va_sld hx hb hX hbl hbA hS (lx_in 1 hk6 hL (by decide)) dL_law_407 ?_
  refine lx_at 1 hk6 hL (by decide) ?_
  refine lv_aload_n hx hb dL_law_408 rfl (lv_at hl 0 rfl) ?_
  refine lv_iload_n hx hb dL_law_409 rfl (lv_at hl 3 rfl) ?_
  refine lv_iconst (v := 2) hx hb dL_law_410 (by decide) ?_
  refine lv_iadd hx hb dL_law_411 ?_
  refine va_sld hx hb hX hbl hbA hS (lx_in 2 hk6 hL (by decide)) dL_law_412 ?_
  refine lx_at 2 hk6 hL (by decide) ?_
  refine lv_aload_n hx hb dL_law_413 rfl (lv_at hl 0 rfl) ?_
  refine lv_iload_n hx hb dL_law_414 rfl (lv_at hl 3 rfl) ?_
  refine lv_iconst (v := 3) hx hb dL_law_415 (by decide) ?_
  refine lv_iadd hx hb dL_law_416 ?_
  refine va_sld hx hb hX hbl hbA hS (lx_in 3 hk6 hL (by decide)) dL_law_417 ?_
  refine lx_at 3 hk6 hL (by decide) ?_
  obtain ⟨r, σ', τ', hx1, hm1, hRel2⟩ := hstep σ τ (xs (6 * k + 1)) (xs (6 * k + 2)) (xs (6 * k + 3)) hRel
  refine xL [] C hP hPm hD hS (c_X11_heard hx1) mv_X11_heard q_654 rv_X11 dL_law_418 ⟨Nat.le_of_ble_eq_true rfl, Nat.le_of_ble_eq_true rfl⟩ ⟨Nat.le_trans (Nat.le_add_right _ _) hcs.1, Nat.le_trans (Nat.le_add_right _ _) hcs.2⟩ rfl rfl (Nat.le_of_ble_eq_true rfl) hl.1 (fun H locs hP hPm hD hS => ?_)
  refine lv_aload_n hx hb dL_law_421 rfl (lv_at hl 2 rfl) ?_
  refine lv_aload_n hx hb dL_law_422 rfl (lv_at hl 0 rfl) ?_
  refine lv_iload_n hx hb dL_law_423 rfl (lv_at hl 3 rfl) ?_
  refine lv_iconst (v := 1) hx hb dL_law_424 (by decide) ?_
  refine lv_iadd hx hb dL_law_425 ?_
  refine va_sld hx hb hX hbl hbA hS (lx_in 1 hk6 hL (by decide)) dL_law_426 ?_
  refine lx_at 1 hk6 hL (by decide) ?_
  refine lv_aload_n hx hb dL_law_427 rfl (lv_at hl 0 rfl) ?_
  refine lv_iload_n hx hb dL_law_428 rfl (lv_at hl 3 rfl) ?_
  refine lv_iconst (v := 2) hx hb dL_law_429 (by decide) ?_
  refine lv_iadd hx hb dL_law_430 ?_
  refine va_sld hx hb hX hbl hbA hS (lx_in 2 hk6 hL (by decide)) dL_law_431 ?_
  refine lx_at 2 hk6 hL (by decide) ?_
  refine lv_aload_n hx hb dL_law_432 rfl (lv_at hl 0 rfl) ?_
  refine lv_iload_n hx hb dL_law_433 rfl (lv_at hl 3 rfl) ?_
  refine lv_iconst (v := 3) hx hb dL_law_434 (by decide) ?_
  refine lv_iadd hx hb dL_law_435 ?_
  refine va_sld hx hb hX hbl hbA hS (lx_in 3 hk6 hL (by decide)) dL_law_436 ?_
  refine lx_at 3 hk6 hL (by decide) ?_
  refine mL [.long r] C hP hPm hD hS (c_X12_heard hm1) mv_X12_heard q_1322 rv_X12 dL_law_437 ⟨Nat.le_of_ble_eq_true rfl, Nat.le_of_ble_eq_true rfl⟩ ⟨Nat.le_trans (Nat.le_add_right _ _) hcs.1, Nat.le_trans (Nat.le_add_right _ _) hcs.2⟩ rfl rfl (Nat.le_of_ble_eq_true rfl) hl.1 (fun H locs hP hPm hD hS => ?_)
  refine lb_eq (tgt := 1594) hx hb dL_law_440 dL_law_441 (by decide) (fun _ => ?_) (fun z => absurd rfl z)
  refine W.widen (k := cells + 4) (n := slots + 267) (Nat.le_add_right _ _) (Nat.le_add_right _ _) ?_
  exact kk σ' τ' a H locs hRel2 (fun _ _ => rfl) hP hPm hD hS
set_option maxHeartbeats 4000000 in
set_option maxRecDepth 100000 in
theorem law_c7 {p : Program} {l : Launch} {e : Env} {s : State} {m : MethodId} {below : List Frame} {meth : Method} {c : Code} {g : va_G} {ts : ClassId × ClassId × ClassId} {Q : State → Prop} {b L : Nat} {xs : Nat → Int32} {a a2 : Nat → Nat} {σ τ : St} {H : Heap} {locs : List Loc} {cells slots k : Nat} {ls : Array Slot} {Rel Rel2 : St → St → Prop} (hstep : Step_7 Rel Rel2) (C : FX p s m #[Value.ref b] meth c RL cL_law 4 g ts (fun q : Nat => s.heap.size ≤ q)) (hO : va_AO "AsInBertha$Shelf" s) (hX : va_X b L xs s s.heap) (hbl : b < s.heap.size) (hbA : ¬ (fun q : Nat => s.heap.size ≤ q) b) (hL : L ≤ 3072) (hk6 : 6 * k + 6 ≤ L) (hRel : Rel σ τ) (hP : va_P g classes (WC ts a σ) H) (hPm : va_P g classes (WM ts a2 τ) H) (hD : va_D (fun q : Nat => s.heap.size ≤ q) (WC ts a σ ++ WM ts a2 τ)) (hS : va_S (fun q : Nat => s.heap.size ≤ q) s.heap H locs) (hcs : cells + 4 ≤ room_1.cells ∧ slots + 267 ≤ room_1.slots) (hl : lv_has ls 4 [(0, .ref b), (1, .ref (a 0)), (2, .ref (a2 0)), (3, .int (nI (6 * k)))]) (kk : ∀ (σ' τ' : St) (a' : Nat → Nat) (H : Heap) (locs : List Loc), Rel2 σ' τ' → keepA a a' → va_P g classes (WC ts a' σ') H → va_P g classes (WM ts a2 τ') H → va_D (fun q : Nat => s.heap.size ≤ q) (WC ts a' σ' ++ WM ts a2 τ') → va_S (fun q : Nat => s.heap.size ≤ q) s.heap H locs → W p l e room_1 s m #[Value.ref b] below meth c H locs (cells + 4) (slots + 267) Q (F0 m 1594 ls [])) : W p l e room_1 s m #[Value.ref b] below meth c H locs cells slots Q (F0 m 446 ls []) := by
  have hx := C.1
  have hb := C.2.1
  have hown := C.2.2.2.1
  have hts := C.2.2.2.2.1
  refine lv_aload_n hx hb dL_law_446 rfl (lv_at hl 1 rfl) ?_
  refine lv_aload_n hx hb dL_law_447 rfl (lv_at hl 0 rfl) ?_
  refine lv_iload_n hx hb dL_law_448 rfl (lv_at hl 3 rfl) ?_
  refine lv_iconst (v := 1) hx hb dL_law_449 (by decide) ?_
  refine lv_iadd hx hb dL_law_450 ?_
  refine va_sld hx hb hX hbl hbA hS (lx_in 1 hk6 hL (by decide)) dL_law_451 ?_
  refine lx_at 1 hk6 hL (by decide) ?_
  refine lv_aload_n hx hb dL_law_452 rfl (lv_at hl 0 rfl) ?_
  refine lv_iload_n hx hb dL_law_453 rfl (lv_at hl 3 rfl) ?_
  refine lv_iconst (v := 2) hx hb dL_law_454 (by decide) ?_
  refine lv_iadd hx hb dL_law_455 ?_
  refine va_sld hx hb hX hbl hbA hS (lx_in 2 hk6 hL (by decide)) dL_law_456 ?_
  refine lx_at 2 hk6 hL (by decide) ?_
  refine lv_aload_n hx hb dL_law_457 rfl (lv_at hl 0 rfl) ?_
  refine lv_iload_n hx hb dL_law_458 rfl (lv_at hl 3 rfl) ?_
  refine lv_iconst (v := 3) hx hb dL_law_459 (by decide) ?_
  refine lv_iadd hx hb dL_law_460 ?_
  refine va_sld hx hb hX hbl hbA hS (lx_in 3 hk6 hL (by decide)) dL_law_461 ?_
  refine lx_at 3 hk6 hL (by decide) ?_
  obtain ⟨r, σ', τ', hx1, hm1, hRel2⟩ := hstep σ τ (xs (6 * k + 1)) (xs (6 * k + 2)) (xs (6 * k + 3)) hRel
  refine xL [] C hP hPm hD hS (c_X11_likely hx1) mv_X11_likely q_686 rv_X11 dL_law_462 ⟨Nat.le_of_ble_eq_true rfl, Nat.le_of_ble_eq_true rfl⟩ ⟨Nat.le_trans (Nat.le_add_right _ _) hcs.1, Nat.le_trans (Nat.le_add_right _ _) hcs.2⟩ rfl rfl (Nat.le_of_ble_eq_true rfl) hl.1 (fun H locs hP hPm hD hS => ?_)
  refine lv_aload_n hx hb dL_law_465 rfl (lv_at hl 2 rfl) ?_
  refine lv_aload_n hx hb dL_law_466 rfl (lv_at hl 0 rfl) ?_
  refine lv_iload_n hx hb dL_law_467 rfl (lv_at hl 3 rfl) ?_
  refine lv_iconst (v := 1) hx hb dL_law_468 (by decide) ?_
  refine lv_iadd hx hb dL_law_469 ?_
  refine va_sld hx hb hX hbl hbA hS (lx_in 1 hk6 hL (by decide)) dL_law_470 ?_
  refine lx_at 1 hk6 hL (by decide) ?_
  refine lv_aload_n hx hb dL_law_471 rfl (lv_at hl 0 rfl) ?_
  refine lv_iload_n hx hb dL_law_472 rfl (lv_at hl 3 rfl) ?_
  refine lv_iconst (v := 2) hx hb dL_law_473 (by decide) ?_
  refine lv_iadd hx hb dL_law_474 ?_
  refine va_sld hx hb hX hbl hbA hS (lx_in 2 hk6 hL (by decide)) dL_law_475 ?_
  refine lx_at 2 hk6 hL (by decide) ?_
  refine lv_aload_n hx hb dL_law_476 rfl (lv_at hl 0 rfl) ?_
  refine lv_iload_n hx hb dL_law_477 rfl (lv_at hl 3 rfl) ?_
  refine lv_iconst (v := 3) hx hb dL_law_478 (by decide) ?_
  refine lv_iadd hx hb dL_law_479 ?_
  refine va_sld hx hb hX hbl hbA hS (lx_in 3 hk6 hL (by decide)) dL_law_480 ?_
  refine lx_at 3 hk6 hL (by decide) ?_
  refine mL [.long r] C hP hPm hD hS (c_X12_likely hm1) mv_X12_likely q_1337 rv_X12 dL_law_481 ⟨Nat.le_of_ble_eq_true rfl, Nat.le_of_ble_eq_true rfl⟩ ⟨Nat.le_trans (Nat.le_add_right _ _) hcs.1, Nat.le_trans (Nat.le_add_right _ _) hcs.2⟩ rfl rfl (Nat.le_of_ble_eq_true rfl) hl.1 (fun H locs hP hPm hD hS => ?_)
  refine lb_eq (tgt := 1594) hx hb dL_law_484 dL_law_485 (by decide) (fun _ => ?_) (fun z => absurd rfl z)
  refine W.widen (k := cells + 4) (n := slots + 267) (Nat.le_add_right _ _) (Nat.le_add_right _ _) ?_
  exact kk σ' τ' a H locs hRel2 (fun _ _ => rfl) hP hPm hD hS
set_option maxHeartbeats 4000000 in
set_option maxRecDepth 100000 in
theorem law_c8 {p : Program} {l : Launch} {e : Env} {s : State} {m : MethodId} {below : List Frame} {meth : Method} {c : Code} {g : va_G} {ts : ClassId × ClassId × ClassId} {Q : State → Prop} {b L : Nat} {xs : Nat → Int32} {a a2 : Nat → Nat} {σ τ : St} {H : Heap} {locs : List Loc} {cells slots k : Nat} {ls : Array Slot} {Rel Rel2 : St → St → Prop} (hstep : Step_8 Rel Rel2) (C : FX p s m #[Value.ref b] meth c RL cL_law 4 g ts (fun q : Nat => s.heap.size ≤ q)) (hO : va_AO "AsInBertha$Shelf" s) (hX : va_X b L xs s s.heap) (hbl : b < s.heap.size) (hbA : ¬ (fun q : Nat => s.heap.size ≤ q) b) (hL : L ≤ 3072) (hk6 : 6 * k + 6 ≤ L) (hRel : Rel σ τ) (hP : va_P g classes (WC ts a σ) H) (hPm : va_P g classes (WM ts a2 τ) H) (hD : va_D (fun q : Nat => s.heap.size ≤ q) (WC ts a σ ++ WM ts a2 τ)) (hS : va_S (fun q : Nat => s.heap.size ≤ q) s.heap H locs) (hcs : cells + 4 ≤ room_1.cells ∧ slots + 267 ≤ room_1.slots) (hl : lv_has ls 4 [(0, .ref b), (1, .ref (a 0)), (2, .ref (a2 0)), (3, .int (nI (6 * k)))]) (kk : ∀ (σ' τ' : St) (a' : Nat → Nat) (H : Heap) (locs : List Loc), Rel2 σ' τ' → keepA a a' → va_P g classes (WC ts a' σ') H → va_P g classes (WM ts a2 τ') H → va_D (fun q : Nat => s.heap.size ≤ q) (WC ts a' σ' ++ WM ts a2 τ') → va_S (fun q : Nat => s.heap.size ≤ q) s.heap H locs → W p l e room_1 s m #[Value.ref b] below meth c H locs (cells + 4) (slots + 267) Q (F0 m 1594 ls [])) : W p l e room_1 s m #[Value.ref b] below meth c H locs cells slots Q (F0 m 490 ls []) := by
  have hx := C.1
  have hb := C.2.1
  have hown := C.2.2.2.1
  have hts := C.2.2.2.2.1
  refine lv_aload_n hx hb dL_law_490 rfl (lv_at hl 1 rfl) ?_
  refine lv_aload_n hx hb dL_law_491 rfl (lv_at hl 0 rfl) ?_
  refine lv_iload_n hx hb dL_law_492 rfl (lv_at hl 3 rfl) ?_
  refine lv_iconst (v := 1) hx hb dL_law_493 (by decide) ?_
  refine lv_iadd hx hb dL_law_494 ?_
  refine va_sld hx hb hX hbl hbA hS (lx_in 1 hk6 hL (by decide)) dL_law_495 ?_
  refine lx_at 1 hk6 hL (by decide) ?_
  obtain ⟨r, σ', τ', hx1, hm1, hRel2⟩ := hstep σ τ (xs (6 * k + 1)) hRel
  refine xI [] C hP hPm hD hS (c_X11_likeliest hx1) mv_X11_likeliest q_707 rv_X11 dL_law_496 ⟨Nat.le_of_ble_eq_true rfl, Nat.le_of_ble_eq_true rfl⟩ ⟨Nat.le_trans (Nat.le_add_right _ _) hcs.1, Nat.le_trans (Nat.le_add_right _ _) hcs.2⟩ rfl rfl (Nat.le_of_ble_eq_true rfl) hl.1 (fun H locs hP hPm hD hS => ?_)
  refine lv_aload_n hx hb dL_law_499 rfl (lv_at hl 2 rfl) ?_
  refine lv_aload_n hx hb dL_law_500 rfl (lv_at hl 0 rfl) ?_
  refine lv_iload_n hx hb dL_law_501 rfl (lv_at hl 3 rfl) ?_
  refine lv_iconst (v := 1) hx hb dL_law_502 (by decide) ?_
  refine lv_iadd hx hb dL_law_503 ?_
  refine va_sld hx hb hX hbl hbA hS (lx_in 1 hk6 hL (by decide)) dL_law_504 ?_
  refine lx_at 1 hk6 hL (by decide) ?_
  refine mI [.int r] C hP hPm hD hS (c_X12_likeliest hm1) mv_X12_likeliest q_1354 rv_X12 dL_law_505 ⟨Nat.le_of_ble_eq_true rfl, Nat.le_of_ble_eq_true rfl⟩ ⟨Nat.le_trans (Nat.le_add_right _ _) hcs.1, Nat.le_trans (Nat.le_add_right _ _) hcs.2⟩ rfl rfl (Nat.le_of_ble_eq_true rfl) hl.1 (fun H locs hP hPm hD hS => ?_)
  refine lv_icmp_eq (tgt := 1594) hx hb dL_law_508 (by decide) (fun _ => ?_) (fun z => absurd rfl z)
  refine W.widen (k := cells + 4) (n := slots + 267) (Nat.le_add_right _ _) (Nat.le_add_right _ _) ?_
  exact kk σ' τ' a H locs hRel2 (fun _ _ => rfl) hP hPm hD hS
set_option maxHeartbeats 4000000 in
set_option maxRecDepth 100000 in
theorem law_c9 {p : Program} {l : Launch} {e : Env} {s : State} {m : MethodId} {below : List Frame} {meth : Method} {c : Code} {g : va_G} {ts : ClassId × ClassId × ClassId} {Q : State → Prop} {b L : Nat} {xs : Nat → Int32} {a a2 : Nat → Nat} {σ τ : St} {H : Heap} {locs : List Loc} {cells slots k : Nat} {ls : Array Slot} {Rel Rel2 : St → St → Prop} (hstep : Step_9 Rel Rel2) (C : FX p s m #[Value.ref b] meth c RL cL_law 4 g ts (fun q : Nat => s.heap.size ≤ q)) (hO : va_AO "AsInBertha$Shelf" s) (hX : va_X b L xs s s.heap) (hbl : b < s.heap.size) (hbA : ¬ (fun q : Nat => s.heap.size ≤ q) b) (hL : L ≤ 3072) (hk6 : 6 * k + 6 ≤ L) (hRel : Rel σ τ) (hP : va_P g classes (WC ts a σ) H) (hPm : va_P g classes (WM ts a2 τ) H) (hD : va_D (fun q : Nat => s.heap.size ≤ q) (WC ts a σ ++ WM ts a2 τ)) (hS : va_S (fun q : Nat => s.heap.size ≤ q) s.heap H locs) (hcs : cells + 4 ≤ room_1.cells ∧ slots + 267 ≤ room_1.slots) (hl : lv_has ls 4 [(0, .ref b), (1, .ref (a 0)), (2, .ref (a2 0)), (3, .int (nI (6 * k)))]) (kk : ∀ (σ' τ' : St) (a' : Nat → Nat) (H : Heap) (locs : List Loc), Rel2 σ' τ' → keepA a a' → va_P g classes (WC ts a' σ') H → va_P g classes (WM ts a2 τ') H → va_D (fun q : Nat => s.heap.size ≤ q) (WC ts a' σ' ++ WM ts a2 τ') → va_S (fun q : Nat => s.heap.size ≤ q) s.heap H locs → W p l e room_1 s m #[Value.ref b] below meth c H locs (cells + 4) (slots + 267) Q (F0 m 1594 ls [])) : W p l e room_1 s m #[Value.ref b] below meth c H locs cells slots Q (F0 m 513 ls []) := by
  have hx := C.1
  have hb := C.2.1
  have hown := C.2.2.2.1
  have hts := C.2.2.2.2.1
  refine lv_aload_n hx hb dL_law_513 rfl (lv_at hl 1 rfl) ?_
  refine lv_aload_n hx hb dL_law_514 rfl (lv_at hl 0 rfl) ?_
  refine lv_iload_n hx hb dL_law_515 rfl (lv_at hl 3 rfl) ?_
  refine lv_iconst (v := 1) hx hb dL_law_516 (by decide) ?_
  refine lv_iadd hx hb dL_law_517 ?_
  refine va_sld hx hb hX hbl hbA hS (lx_in 1 hk6 hL (by decide)) dL_law_518 ?_
  refine lx_at 1 hk6 hL (by decide) ?_
  refine lv_aload_n hx hb dL_law_519 rfl (lv_at hl 0 rfl) ?_
  refine lv_iload_n hx hb dL_law_520 rfl (lv_at hl 3 rfl) ?_
  refine lv_iconst (v := 2) hx hb dL_law_521 (by decide) ?_
  refine lv_iadd hx hb dL_law_522 ?_
  refine va_sld hx hb hX hbl hbA hS (lx_in 2 hk6 hL (by decide)) dL_law_523 ?_
  refine lx_at 2 hk6 hL (by decide) ?_
  obtain ⟨r, σ', τ', hx1, hm1, hRel2⟩ := hstep σ τ (xs (6 * k + 1)) (xs (6 * k + 2)) hRel
  refine xI [] C hP hPm hD hS (c_X11_sure hx1) mv_X11_sure q_715 rv_X11 dL_law_524 ⟨Nat.le_of_ble_eq_true rfl, Nat.le_of_ble_eq_true rfl⟩ ⟨Nat.le_trans (Nat.le_add_right _ _) hcs.1, Nat.le_trans (Nat.le_add_right _ _) hcs.2⟩ rfl rfl (Nat.le_of_ble_eq_true rfl) hl.1 (fun H locs hP hPm hD hS => ?_)
  refine lv_aload_n hx hb dL_law_527 rfl (lv_at hl 2 rfl) ?_
  refine lv_aload_n hx hb dL_law_528 rfl (lv_at hl 0 rfl) ?_
  refine lv_iload_n hx hb dL_law_529 rfl (lv_at hl 3 rfl) ?_
  refine lv_iconst (v := 1) hx hb dL_law_530 (by decide) ?_
  refine lv_iadd hx hb dL_law_531 ?_
  refine va_sld hx hb hX hbl hbA hS (lx_in 1 hk6 hL (by decide)) dL_law_532 ?_
  refine lx_at 1 hk6 hL (by decide) ?_
  refine lv_aload_n hx hb dL_law_533 rfl (lv_at hl 0 rfl) ?_
  refine lv_iload_n hx hb dL_law_534 rfl (lv_at hl 3 rfl) ?_
  refine lv_iconst (v := 2) hx hb dL_law_535 (by decide) ?_
  refine lv_iadd hx hb dL_law_536 ?_
  refine va_sld hx hb hX hbl hbA hS (lx_in 2 hk6 hL (by decide)) dL_law_537 ?_
  refine lx_at 2 hk6 hL (by decide) ?_
  refine mI [.int r] C hP hPm hD hS (c_X12_sure hm1) mv_X12_sure q_1362 rv_X12 dL_law_538 ⟨Nat.le_of_ble_eq_true rfl, Nat.le_of_ble_eq_true rfl⟩ ⟨Nat.le_trans (Nat.le_add_right _ _) hcs.1, Nat.le_trans (Nat.le_add_right _ _) hcs.2⟩ rfl rfl (Nat.le_of_ble_eq_true rfl) hl.1 (fun H locs hP hPm hD hS => ?_)
  refine lv_icmp_eq (tgt := 1594) hx hb dL_law_541 (by decide) (fun _ => ?_) (fun z => absurd rfl z)
  refine W.widen (k := cells + 4) (n := slots + 267) (Nat.le_add_right _ _) (Nat.le_add_right _ _) ?_
  exact kk σ' τ' a H locs hRel2 (fun _ _ => rfl) hP hPm hD hS
set_option maxHeartbeats 4000000 in
set_option maxRecDepth 100000 in
theorem law_c10 {p : Program} {l : Launch} {e : Env} {s : State} {m : MethodId} {below : List Frame} {meth : Method} {c : Code} {g : va_G} {ts : ClassId × ClassId × ClassId} {Q : State → Prop} {b L : Nat} {xs : Nat → Int32} {a a2 : Nat → Nat} {σ τ : St} {H : Heap} {locs : List Loc} {cells slots k : Nat} {ls : Array Slot} {Rel Rel2 : St → St → Prop} (hstep : Step_10 Rel Rel2) (C : FX p s m #[Value.ref b] meth c RL cL_law 4 g ts (fun q : Nat => s.heap.size ≤ q)) (hO : va_AO "AsInBertha$Shelf" s) (hX : va_X b L xs s s.heap) (hbl : b < s.heap.size) (hbA : ¬ (fun q : Nat => s.heap.size ≤ q) b) (hL : L ≤ 3072) (hk6 : 6 * k + 6 ≤ L) (hRel : Rel σ τ) (hP : va_P g classes (WC ts a σ) H) (hPm : va_P g classes (WM ts a2 τ) H) (hD : va_D (fun q : Nat => s.heap.size ≤ q) (WC ts a σ ++ WM ts a2 τ)) (hS : va_S (fun q : Nat => s.heap.size ≤ q) s.heap H locs) (hcs : cells + 4 ≤ room_1.cells ∧ slots + 267 ≤ room_1.slots) (hl : lv_has ls 4 [(0, .ref b), (1, .ref (a 0)), (2, .ref (a2 0)), (3, .int (nI (6 * k)))]) (kk : ∀ (σ' τ' : St) (a' : Nat → Nat) (H : Heap) (locs : List Loc), Rel2 σ' τ' → keepA a a' → va_P g classes (WC ts a' σ') H → va_P g classes (WM ts a2 τ') H → va_D (fun q : Nat => s.heap.size ≤ q) (WC ts a' σ' ++ WM ts a2 τ') → va_S (fun q : Nat => s.heap.size ≤ q) s.heap H locs → W p l e room_1 s m #[Value.ref b] below meth c H locs (cells + 4) (slots + 267) Q (F0 m 1594 ls [])) : W p l e room_1 s m #[Value.ref b] below meth c H locs cells slots Q (F0 m 546 ls []) := by
  have hx := C.1
  have hb := C.2.1
  have hown := C.2.2.2.1
  have hts := C.2.2.2.2.1
  refine lv_aload_n hx hb dL_law_546 rfl (lv_at hl 1 rfl) ?_
  refine lv_aload_n hx hb dL_law_547 rfl (lv_at hl 0 rfl) ?_
  refine lv_iload_n hx hb dL_law_548 rfl (lv_at hl 3 rfl) ?_
  refine lv_iconst (v := 1) hx hb dL_law_549 (by decide) ?_
  refine lv_iadd hx hb dL_law_550 ?_
  refine va_sld hx hb hX hbl hbA hS (lx_in 1 hk6 hL (by decide)) dL_law_551 ?_
  refine lx_at 1 hk6 hL (by decide) ?_
  refine lv_aload_n hx hb dL_law_552 rfl (lv_at hl 0 rfl) ?_
  refine lv_iload_n hx hb dL_law_553 rfl (lv_at hl 3 rfl) ?_
  refine lv_iconst (v := 2) hx hb dL_law_554 (by decide) ?_
  refine lv_iadd hx hb dL_law_555 ?_
  refine va_sld hx hb hX hbl hbA hS (lx_in 2 hk6 hL (by decide)) dL_law_556 ?_
  refine lx_at 2 hk6 hL (by decide) ?_
  refine lv_aload_n hx hb dL_law_557 rfl (lv_at hl 0 rfl) ?_
  refine lv_iload_n hx hb dL_law_558 rfl (lv_at hl 3 rfl) ?_
  refine lv_iconst (v := 3) hx hb dL_law_559 (by decide) ?_
  refine lv_iadd hx hb dL_law_560 ?_
  refine va_sld hx hb hX hbl hbA hS (lx_in 3 hk6 hL (by decide)) dL_law_561 ?_
  refine lx_at 3 hk6 hL (by decide) ?_
  obtain ⟨r, σ', τ', hx1, hm1, hRel2⟩ := hstep σ τ (xs (6 * k + 1)) (xs (6 * k + 2)) (xs (6 * k + 3)) hRel
  refine xL [] C hP hPm hD hS (c_X11_check hx1) mv_X11_check q_722 rv_X11 dL_law_562 ⟨Nat.le_of_ble_eq_true rfl, Nat.le_of_ble_eq_true rfl⟩ ⟨Nat.le_trans (Nat.le_add_right _ _) hcs.1, Nat.le_trans (Nat.le_add_right _ _) hcs.2⟩ rfl rfl (Nat.le_of_ble_eq_true rfl) hl.1 (fun H locs hP hPm hD hS => ?_)
  refine lv_aload_n hx hb dL_law_565 rfl (lv_at hl 2 rfl) ?_
  refine lv_aload_n hx hb dL_law_566 rfl (lv_at hl 0 rfl) ?_
  refine lv_iload_n hx hb dL_law_567 rfl (lv_at hl 3 rfl) ?_
  refine lv_iconst (v := 1) hx hb dL_law_568 (by decide) ?_
  refine lv_iadd hx hb dL_law_569 ?_
  refine va_sld hx hb hX hbl hbA hS (lx_in 1 hk6 hL (by decide)) dL_law_570 ?_
  refine lx_at 1 hk6 hL (by decide) ?_
  refine lv_aload_n hx hb dL_law_571 rfl (lv_at hl 0 rfl) ?_
  refine lv_iload_n hx hb dL_law_572 rfl (lv_at hl 3 rfl) ?_
  refine lv_iconst (v := 2) hx hb dL_law_573 (by decide) ?_
  refine lv_iadd hx hb dL_law_574 ?_
  refine va_sld hx hb hX hbl hbA hS (lx_in 2 hk6 hL (by decide)) dL_law_575 ?_
  refine lx_at 2 hk6 hL (by decide) ?_
  refine lv_aload_n hx hb dL_law_576 rfl (lv_at hl 0 rfl) ?_
  refine lv_iload_n hx hb dL_law_577 rfl (lv_at hl 3 rfl) ?_
  refine lv_iconst (v := 3) hx hb dL_law_578 (by decide) ?_
  refine lv_iadd hx hb dL_law_579 ?_
  refine va_sld hx hb hX hbl hbA hS (lx_in 3 hk6 hL (by decide)) dL_law_580 ?_
  refine lx_at 3 hk6 hL (by decide) ?_
  refine mL [.long r] C hP hPm hD hS (c_X12_check hm1) mv_X12_check q_1366 rv_X12 dL_law_581 ⟨Nat.le_of_ble_eq_true rfl, Nat.le_of_ble_eq_true rfl⟩ ⟨Nat.le_trans (Nat.le_add_right _ _) hcs.1, Nat.le_trans (Nat.le_add_right _ _) hcs.2⟩ rfl rfl (Nat.le_of_ble_eq_true rfl) hl.1 (fun H locs hP hPm hD hS => ?_)
  refine lb_eq (tgt := 1594) hx hb dL_law_584 dL_law_585 (by decide) (fun _ => ?_) (fun z => absurd rfl z)
  refine W.widen (k := cells + 4) (n := slots + 267) (Nat.le_add_right _ _) (Nat.le_add_right _ _) ?_
  exact kk σ' τ' a H locs hRel2 (fun _ _ => rfl) hP hPm hD hS
set_option maxHeartbeats 4000000 in
set_option maxRecDepth 100000 in
theorem law_c11 {p : Program} {l : Launch} {e : Env} {s : State} {m : MethodId} {below : List Frame} {meth : Method} {c : Code} {g : va_G} {ts : ClassId × ClassId × ClassId} {Q : State → Prop} {b L : Nat} {xs : Nat → Int32} {a a2 : Nat → Nat} {σ τ : St} {H : Heap} {locs : List Loc} {cells slots k : Nat} {ls : Array Slot} {Rel Rel2 : St → St → Prop} (hstep : Step_11 Rel Rel2) (C : FX p s m #[Value.ref b] meth c RL cL_law 4 g ts (fun q : Nat => s.heap.size ≤ q)) (hO : va_AO "AsInBertha$Shelf" s) (hX : va_X b L xs s s.heap) (hbl : b < s.heap.size) (hbA : ¬ (fun q : Nat => s.heap.size ≤ q) b) (hL : L ≤ 3072) (hk6 : 6 * k + 6 ≤ L) (hRel : Rel σ τ) (hP : va_P g classes (WC ts a σ) H) (hPm : va_P g classes (WM ts a2 τ) H) (hD : va_D (fun q : Nat => s.heap.size ≤ q) (WC ts a σ ++ WM ts a2 τ)) (hS : va_S (fun q : Nat => s.heap.size ≤ q) s.heap H locs) (hcs : cells + 4 ≤ room_1.cells ∧ slots + 267 ≤ room_1.slots) (hl : lv_has ls 4 [(0, .ref b), (1, .ref (a 0)), (2, .ref (a2 0)), (3, .int (nI (6 * k)))]) (kk : ∀ (σ' τ' : St) (a' : Nat → Nat) (H : Heap) (locs : List Loc), Rel2 σ' τ' → keepA a a' → va_P g classes (WC ts a' σ') H → va_P g classes (WM ts a2 τ') H → va_D (fun q : Nat => s.heap.size ≤ q) (WC ts a' σ' ++ WM ts a2 τ') → va_S (fun q : Nat => s.heap.size ≤ q) s.heap H locs → W p l e room_1 s m #[Value.ref b] below meth c H locs (cells + 4) (slots + 267) Q (F0 m 1594 ls [])) : W p l e room_1 s m #[Value.ref b] below meth c H locs cells slots Q (F0 m 590 ls []) := by
  have hx := C.1
  have hb := C.2.1
  have hown := C.2.2.2.1
  have hts := C.2.2.2.2.1
  refine lv_aload_n hx hb dL_law_590 rfl (lv_at hl 1 rfl) ?_
  refine lv_aload_n hx hb dL_law_591 rfl (lv_at hl 0 rfl) ?_
  refine lv_iload_n hx hb dL_law_592 rfl (lv_at hl 3 rfl) ?_
  refine lv_iconst (v := 1) hx hb dL_law_593 (by decide) ?_
  refine lv_iadd hx hb dL_law_594 ?_
  refine va_sld hx hb hX hbl hbA hS (lx_in 1 hk6 hL (by decide)) dL_law_595 ?_
  refine lx_at 1 hk6 hL (by decide) ?_
  refine lv_aload_n hx hb dL_law_596 rfl (lv_at hl 0 rfl) ?_
  refine lv_iload_n hx hb dL_law_597 rfl (lv_at hl 3 rfl) ?_
  refine lv_iconst (v := 2) hx hb dL_law_598 (by decide) ?_
  refine lv_iadd hx hb dL_law_599 ?_
  refine va_sld hx hb hX hbl hbA hS (lx_in 2 hk6 hL (by decide)) dL_law_600 ?_
  refine lx_at 2 hk6 hL (by decide) ?_
  obtain ⟨r, σ', τ', hx1, hm1, hRel2⟩ := hstep σ τ (xs (6 * k + 1)) (xs (6 * k + 2)) hRel
  refine xL [] C hP hPm hD hS (c_X11_again hx1) mv_X11_again q_726 rv_X11 dL_law_601 ⟨Nat.le_of_ble_eq_true rfl, Nat.le_of_ble_eq_true rfl⟩ ⟨Nat.le_trans (Nat.le_add_right _ _) hcs.1, Nat.le_trans (Nat.le_add_right _ _) hcs.2⟩ rfl rfl (Nat.le_of_ble_eq_true rfl) hl.1 (fun H locs hP hPm hD hS => ?_)
  refine lv_aload_n hx hb dL_law_604 rfl (lv_at hl 2 rfl) ?_
  refine lv_aload_n hx hb dL_law_605 rfl (lv_at hl 0 rfl) ?_
  refine lv_iload_n hx hb dL_law_606 rfl (lv_at hl 3 rfl) ?_
  refine lv_iconst (v := 1) hx hb dL_law_607 (by decide) ?_
  refine lv_iadd hx hb dL_law_608 ?_
  refine va_sld hx hb hX hbl hbA hS (lx_in 1 hk6 hL (by decide)) dL_law_609 ?_
  refine lx_at 1 hk6 hL (by decide) ?_
  refine lv_aload_n hx hb dL_law_610 rfl (lv_at hl 0 rfl) ?_
  refine lv_iload_n hx hb dL_law_611 rfl (lv_at hl 3 rfl) ?_
  refine lv_iconst (v := 2) hx hb dL_law_612 (by decide) ?_
  refine lv_iadd hx hb dL_law_613 ?_
  refine va_sld hx hb hX hbl hbA hS (lx_in 2 hk6 hL (by decide)) dL_law_614 ?_
  refine lx_at 2 hk6 hL (by decide) ?_
  refine mL [.long r] C hP hPm hD hS (c_X12_again hm1) mv_X12_again q_1374 rv_X12 dL_law_615 ⟨Nat.le_of_ble_eq_true rfl, Nat.le_of_ble_eq_true rfl⟩ ⟨Nat.le_trans (Nat.le_add_right _ _) hcs.1, Nat.le_trans (Nat.le_add_right _ _) hcs.2⟩ rfl rfl (Nat.le_of_ble_eq_true rfl) hl.1 (fun H locs hP hPm hD hS => ?_)
  refine lb_eq (tgt := 1594) hx hb dL_law_618 dL_law_619 (by decide) (fun _ => ?_) (fun z => absurd rfl z)
  refine W.widen (k := cells + 4) (n := slots + 267) (Nat.le_add_right _ _) (Nat.le_add_right _ _) ?_
  exact kk σ' τ' a H locs hRel2 (fun _ _ => rfl) hP hPm hD hS
set_option maxHeartbeats 4000000 in
set_option maxRecDepth 100000 in
theorem law_c12 {p : Program} {l : Launch} {e : Env} {s : State} {m : MethodId} {below : List Frame} {meth : Method} {c : Code} {g : va_G} {ts : ClassId × ClassId × ClassId} {Q : State → Prop} {b L : Nat} {xs : Nat → Int32} {a a2 : Nat → Nat} {σ τ : St} {H : Heap} {locs : List Loc} {cells slots k : Nat} {ls : Array Slot} {Rel Rel2 : St → St → Prop} (hstep : Step_12 Rel Rel2) (C : FX p s m #[Value.ref b] meth c RL cL_law 4 g ts (fun q : Nat => s.heap.size ≤ q)) (hO : va_AO "AsInBertha$Shelf" s) (hX : va_X b L xs s s.heap) (hbl : b < s.heap.size) (hbA : ¬ (fun q : Nat => s.heap.size ≤ q) b) (hL : L ≤ 3072) (hk6 : 6 * k + 6 ≤ L) (hRel : Rel σ τ) (hP : va_P g classes (WC ts a σ) H) (hPm : va_P g classes (WM ts a2 τ) H) (hD : va_D (fun q : Nat => s.heap.size ≤ q) (WC ts a σ ++ WM ts a2 τ)) (hS : va_S (fun q : Nat => s.heap.size ≤ q) s.heap H locs) (hcs : cells + 4 ≤ room_1.cells ∧ slots + 267 ≤ room_1.slots) (hl : lv_has ls 4 [(0, .ref b), (1, .ref (a 0)), (2, .ref (a2 0)), (3, .int (nI (6 * k)))]) (kk : ∀ (σ' τ' : St) (a' : Nat → Nat) (H : Heap) (locs : List Loc), Rel2 σ' τ' → keepA a a' → va_P g classes (WC ts a' σ') H → va_P g classes (WM ts a2 τ') H → va_D (fun q : Nat => s.heap.size ≤ q) (WC ts a' σ' ++ WM ts a2 τ') → va_S (fun q : Nat => s.heap.size ≤ q) s.heap H locs → W p l e room_1 s m #[Value.ref b] below meth c H locs (cells + 4) (slots + 267) Q (F0 m 1594 ls [])) : W p l e room_1 s m #[Value.ref b] below meth c H locs cells slots Q (F0 m 624 ls []) := by
  have hx := C.1
  have hb := C.2.1
  have hown := C.2.2.2.1
  have hts := C.2.2.2.2.1
  refine lv_aload_n hx hb dL_law_624 rfl (lv_at hl 1 rfl) ?_
  refine lv_aload_n hx hb dL_law_625 rfl (lv_at hl 0 rfl) ?_
  refine lv_iload_n hx hb dL_law_626 rfl (lv_at hl 3 rfl) ?_
  refine lv_iconst (v := 1) hx hb dL_law_627 (by decide) ?_
  refine lv_iadd hx hb dL_law_628 ?_
  refine va_sld hx hb hX hbl hbA hS (lx_in 1 hk6 hL (by decide)) dL_law_629 ?_
  refine lx_at 1 hk6 hL (by decide) ?_
  refine lv_aload_n hx hb dL_law_630 rfl (lv_at hl 0 rfl) ?_
  refine lv_iload_n hx hb dL_law_631 rfl (lv_at hl 3 rfl) ?_
  refine lv_iconst (v := 2) hx hb dL_law_632 (by decide) ?_
  refine lv_iadd hx hb dL_law_633 ?_
  refine va_sld hx hb hX hbl hbA hS (lx_in 2 hk6 hL (by decide)) dL_law_634 ?_
  refine lx_at 2 hk6 hL (by decide) ?_
  refine lv_aload_n hx hb dL_law_635 rfl (lv_at hl 0 rfl) ?_
  refine lv_iload_n hx hb dL_law_636 rfl (lv_at hl 3 rfl) ?_
  refine lv_iconst (v := 3) hx hb dL_law_637 (by decide) ?_
  refine lv_iadd hx hb dL_law_638 ?_
  refine va_sld hx hb hX hbl hbA hS (lx_in 3 hk6 hL (by decide)) dL_law_639 ?_
  refine lx_at 3 hk6 hL (by decide) ?_
  obtain ⟨r, σ', τ', hx1, hm1, hRel2⟩ := hstep σ τ (xs (6 * k + 1)) (xs (6 * k + 2)) (xs (6 * k + 3)) hRel
  refine xL [] C hP hPm hD hS (c_X11_right hx1) mv_X11_right q_744 rv_X11 dL_law_640 ⟨Nat.le_of_ble_eq_true rfl, Nat.le_of_ble_eq_true rfl⟩ ⟨Nat.le_trans (Nat.le_add_right _ _) hcs.1, Nat.le_trans (Nat.le_add_right _ _) hcs.2⟩ rfl rfl (Nat.le_of_ble_eq_true rfl) hl.1 (fun H locs hP hPm hD hS => ?_)
  refine lv_aload_n hx hb dL_law_643 rfl (lv_at hl 2 rfl) ?_
  refine lv_aload_n hx hb dL_law_644 rfl (lv_at hl 0 rfl) ?_
  refine lv_iload_n hx hb dL_law_645 rfl (lv_at hl 3 rfl) ?_
  refine lv_iconst (v := 1) hx hb dL_law_646 (by decide) ?_
  refine lv_iadd hx hb dL_law_647 ?_
  refine va_sld hx hb hX hbl hbA hS (lx_in 1 hk6 hL (by decide)) dL_law_648 ?_
  refine lx_at 1 hk6 hL (by decide) ?_
  refine lv_aload_n hx hb dL_law_649 rfl (lv_at hl 0 rfl) ?_
  refine lv_iload_n hx hb dL_law_650 rfl (lv_at hl 3 rfl) ?_
  refine lv_iconst (v := 2) hx hb dL_law_651 (by decide) ?_
  refine lv_iadd hx hb dL_law_652 ?_
  refine va_sld hx hb hX hbl hbA hS (lx_in 2 hk6 hL (by decide)) dL_law_653 ?_
  refine lx_at 2 hk6 hL (by decide) ?_
  refine lv_aload_n hx hb dL_law_654 rfl (lv_at hl 0 rfl) ?_
  refine lv_iload_n hx hb dL_law_655 rfl (lv_at hl 3 rfl) ?_
  refine lv_iconst (v := 3) hx hb dL_law_656 (by decide) ?_
  refine lv_iadd hx hb dL_law_657 ?_
  refine va_sld hx hb hX hbl hbA hS (lx_in 3 hk6 hL (by decide)) dL_law_658 ?_
  refine lx_at 3 hk6 hL (by decide) ?_
  refine mL [.long r] C hP hPm hD hS (c_X12_right hm1) mv_X12_right q_1385 rv_X12 dL_law_659 ⟨Nat.le_of_ble_eq_true rfl, Nat.le_of_ble_eq_true rfl⟩ ⟨Nat.le_trans (Nat.le_add_right _ _) hcs.1, Nat.le_trans (Nat.le_add_right _ _) hcs.2⟩ rfl rfl (Nat.le_of_ble_eq_true rfl) hl.1 (fun H locs hP hPm hD hS => ?_)
  refine lb_eq (tgt := 1594) hx hb dL_law_662 dL_law_663 (by decide) (fun _ => ?_) (fun z => absurd rfl z)
  refine W.widen (k := cells + 4) (n := slots + 267) (Nat.le_add_right _ _) (Nat.le_add_right _ _) ?_
  exact kk σ' τ' a H locs hRel2 (fun _ _ => rfl) hP hPm hD hS
set_option maxHeartbeats 4000000 in
set_option maxRecDepth 100000 in
theorem law_c13 {p : Program} {l : Launch} {e : Env} {s : State} {m : MethodId} {below : List Frame} {meth : Method} {c : Code} {g : va_G} {ts : ClassId × ClassId × ClassId} {Q : State → Prop} {b L : Nat} {xs : Nat → Int32} {a a2 : Nat → Nat} {σ τ : St} {H : Heap} {locs : List Loc} {cells slots k : Nat} {ls : Array Slot} {Rel Rel2 : St → St → Prop} (hstep : Step_13 Rel Rel2) (C : FX p s m #[Value.ref b] meth c RL cL_law 4 g ts (fun q : Nat => s.heap.size ≤ q)) (hO : va_AO "AsInBertha$Shelf" s) (hX : va_X b L xs s s.heap) (hbl : b < s.heap.size) (hbA : ¬ (fun q : Nat => s.heap.size ≤ q) b) (hL : L ≤ 3072) (hk6 : 6 * k + 6 ≤ L) (hRel : Rel σ τ) (hP : va_P g classes (WC ts a σ) H) (hPm : va_P g classes (WM ts a2 τ) H) (hD : va_D (fun q : Nat => s.heap.size ≤ q) (WC ts a σ ++ WM ts a2 τ)) (hS : va_S (fun q : Nat => s.heap.size ≤ q) s.heap H locs) (hcs : cells + 4 ≤ room_1.cells ∧ slots + 267 ≤ room_1.slots) (hl : lv_has ls 4 [(0, .ref b), (1, .ref (a 0)), (2, .ref (a2 0)), (3, .int (nI (6 * k)))]) (kk : ∀ (σ' τ' : St) (a' : Nat → Nat) (H : Heap) (locs : List Loc), Rel2 σ' τ' → keepA a a' → va_P g classes (WC ts a' σ') H → va_P g classes (WM ts a2 τ') H → va_D (fun q : Nat => s.heap.size ≤ q) (WC ts a' σ' ++ WM ts a2 τ') → va_S (fun q : Nat => s.heap.size ≤ q) s.heap H locs → W p l e room_1 s m #[Value.ref b] below meth c H locs (cells + 4) (slots + 267) Q (F0 m 1594 ls [])) : W p l e room_1 s m #[Value.ref b] below meth c H locs cells slots Q (F0 m 668 ls []) := by
  have hx := C.1
  have hb := C.2.1
  have hown := C.2.2.2.1
  have hts := C.2.2.2.2.1
  refine lv_aload_n hx hb dL_law_668 rfl (lv_at hl 1 rfl) ?_
  refine lv_aload_n hx hb dL_law_669 rfl (lv_at hl 0 rfl) ?_
  refine lv_iload_n hx hb dL_law_670 rfl (lv_at hl 3 rfl) ?_
  refine lv_iconst (v := 1) hx hb dL_law_671 (by decide) ?_
  refine lv_iadd hx hb dL_law_672 ?_
  refine va_sld hx hb hX hbl hbA hS (lx_in 1 hk6 hL (by decide)) dL_law_673 ?_
  refine lx_at 1 hk6 hL (by decide) ?_
  refine lv_aload_n hx hb dL_law_674 rfl (lv_at hl 0 rfl) ?_
  refine lv_iload_n hx hb dL_law_675 rfl (lv_at hl 3 rfl) ?_
  refine lv_iconst (v := 2) hx hb dL_law_676 (by decide) ?_
  refine lv_iadd hx hb dL_law_677 ?_
  refine va_sld hx hb hX hbl hbA hS (lx_in 2 hk6 hL (by decide)) dL_law_678 ?_
  refine lx_at 2 hk6 hL (by decide) ?_
  obtain ⟨r, σ', τ', hx1, hm1, hRel2⟩ := hstep σ τ (xs (6 * k + 1)) (xs (6 * k + 2)) hRel
  refine xI [] C hP hPm hD hS (c_X11_time hx1) mv_X11_time q_765 rv_X11 dL_law_679 ⟨Nat.le_of_ble_eq_true rfl, Nat.le_of_ble_eq_true rfl⟩ ⟨Nat.le_trans (Nat.le_add_right _ _) hcs.1, Nat.le_trans (Nat.le_add_right _ _) hcs.2⟩ rfl rfl (Nat.le_of_ble_eq_true rfl) hl.1 (fun H locs hP hPm hD hS => ?_)
  refine lv_aload_n hx hb dL_law_682 rfl (lv_at hl 2 rfl) ?_
  refine lv_aload_n hx hb dL_law_683 rfl (lv_at hl 0 rfl) ?_
  refine lv_iload_n hx hb dL_law_684 rfl (lv_at hl 3 rfl) ?_
  refine lv_iconst (v := 1) hx hb dL_law_685 (by decide) ?_
  refine lv_iadd hx hb dL_law_686 ?_
  refine va_sld hx hb hX hbl hbA hS (lx_in 1 hk6 hL (by decide)) dL_law_687 ?_
  refine lx_at 1 hk6 hL (by decide) ?_
  refine lv_aload_n hx hb dL_law_688 rfl (lv_at hl 0 rfl) ?_
  refine lv_iload_n hx hb dL_law_689 rfl (lv_at hl 3 rfl) ?_
  refine lv_iconst (v := 2) hx hb dL_law_690 (by decide) ?_
  refine lv_iadd hx hb dL_law_691 ?_
  refine va_sld hx hb hX hbl hbA hS (lx_in 2 hk6 hL (by decide)) dL_law_692 ?_
  refine lx_at 2 hk6 hL (by decide) ?_
  refine mI [.int r] C hP hPm hD hS (c_X12_time hm1) mv_X12_time q_1403 rv_X12 dL_law_693 ⟨Nat.le_of_ble_eq_true rfl, Nat.le_of_ble_eq_true rfl⟩ ⟨Nat.le_trans (Nat.le_add_right _ _) hcs.1, Nat.le_trans (Nat.le_add_right _ _) hcs.2⟩ rfl rfl (Nat.le_of_ble_eq_true rfl) hl.1 (fun H locs hP hPm hD hS => ?_)
  refine lv_icmp_eq (tgt := 1594) hx hb dL_law_696 (by decide) (fun _ => ?_) (fun z => absurd rfl z)
  refine W.widen (k := cells + 4) (n := slots + 267) (Nat.le_add_right _ _) (Nat.le_add_right _ _) ?_
  exact kk σ' τ' a H locs hRel2 (fun _ _ => rfl) hP hPm hD hS
set_option maxHeartbeats 4000000 in
set_option maxRecDepth 100000 in
theorem law_c14 {p : Program} {l : Launch} {e : Env} {s : State} {m : MethodId} {below : List Frame} {meth : Method} {c : Code} {g : va_G} {ts : ClassId × ClassId × ClassId} {Q : State → Prop} {b L : Nat} {xs : Nat → Int32} {a a2 : Nat → Nat} {σ τ : St} {H : Heap} {locs : List Loc} {cells slots k : Nat} {ls : Array Slot} {Rel Rel2 : St → St → Prop} (hstep : Step_14 Rel Rel2) (C : FX p s m #[Value.ref b] meth c RL cL_law 4 g ts (fun q : Nat => s.heap.size ≤ q)) (hO : va_AO "AsInBertha$Shelf" s) (hX : va_X b L xs s s.heap) (hbl : b < s.heap.size) (hbA : ¬ (fun q : Nat => s.heap.size ≤ q) b) (hL : L ≤ 3072) (hk6 : 6 * k + 6 ≤ L) (hRel : Rel σ τ) (hP : va_P g classes (WC ts a σ) H) (hPm : va_P g classes (WM ts a2 τ) H) (hD : va_D (fun q : Nat => s.heap.size ≤ q) (WC ts a σ ++ WM ts a2 τ)) (hS : va_S (fun q : Nat => s.heap.size ≤ q) s.heap H locs) (hcs : cells + 4 ≤ room_1.cells ∧ slots + 267 ≤ room_1.slots) (hl : lv_has ls 4 [(0, .ref b), (1, .ref (a 0)), (2, .ref (a2 0)), (3, .int (nI (6 * k)))]) (kk : ∀ (σ' τ' : St) (a' : Nat → Nat) (H : Heap) (locs : List Loc), Rel2 σ' τ' → keepA a a' → va_P g classes (WC ts a' σ') H → va_P g classes (WM ts a2 τ') H → va_D (fun q : Nat => s.heap.size ≤ q) (WC ts a' σ' ++ WM ts a2 τ') → va_S (fun q : Nat => s.heap.size ≤ q) s.heap H locs → W p l e room_1 s m #[Value.ref b] below meth c H locs (cells + 4) (slots + 267) Q (F0 m 1594 ls [])) : W p l e room_1 s m #[Value.ref b] below meth c H locs cells slots Q (F0 m 701 ls []) := by
  have hx := C.1
  have hb := C.2.1
  have hown := C.2.2.2.1
  have hts := C.2.2.2.2.1
  refine lv_aload_n hx hb dL_law_701 rfl (lv_at hl 1 rfl) ?_
  refine lv_aload_n hx hb dL_law_702 rfl (lv_at hl 0 rfl) ?_
  refine lv_iload_n hx hb dL_law_703 rfl (lv_at hl 3 rfl) ?_
  refine lv_iconst (v := 1) hx hb dL_law_704 (by decide) ?_
  refine lv_iadd hx hb dL_law_705 ?_
  refine va_sld hx hb hX hbl hbA hS (lx_in 1 hk6 hL (by decide)) dL_law_706 ?_
  refine lx_at 1 hk6 hL (by decide) ?_
  refine lv_aload_n hx hb dL_law_707 rfl (lv_at hl 0 rfl) ?_
  refine lv_iload_n hx hb dL_law_708 rfl (lv_at hl 3 rfl) ?_
  refine lv_iconst (v := 2) hx hb dL_law_709 (by decide) ?_
  refine lv_iadd hx hb dL_law_710 ?_
  refine va_sld hx hb hX hbl hbA hS (lx_in 2 hk6 hL (by decide)) dL_law_711 ?_
  refine lx_at 2 hk6 hL (by decide) ?_
  obtain ⟨r, σ', τ', hx1, hm1, hRel2⟩ := hstep σ τ (xs (6 * k + 1)) (xs (6 * k + 2)) hRel
  refine xI [] C hP hPm hD hS (c_X11_leastSaid hx1) mv_X11_leastSaid q_773 rv_X11 dL_law_712 ⟨Nat.le_of_ble_eq_true rfl, Nat.le_of_ble_eq_true rfl⟩ ⟨Nat.le_trans (Nat.le_add_right _ _) hcs.1, Nat.le_trans (Nat.le_add_right _ _) hcs.2⟩ rfl rfl (Nat.le_of_ble_eq_true rfl) hl.1 (fun H locs hP hPm hD hS => ?_)
  refine lv_aload_n hx hb dL_law_715 rfl (lv_at hl 2 rfl) ?_
  refine lv_aload_n hx hb dL_law_716 rfl (lv_at hl 0 rfl) ?_
  refine lv_iload_n hx hb dL_law_717 rfl (lv_at hl 3 rfl) ?_
  refine lv_iconst (v := 1) hx hb dL_law_718 (by decide) ?_
  refine lv_iadd hx hb dL_law_719 ?_
  refine va_sld hx hb hX hbl hbA hS (lx_in 1 hk6 hL (by decide)) dL_law_720 ?_
  refine lx_at 1 hk6 hL (by decide) ?_
  refine lv_aload_n hx hb dL_law_721 rfl (lv_at hl 0 rfl) ?_
  refine lv_iload_n hx hb dL_law_722 rfl (lv_at hl 3 rfl) ?_
  refine lv_iconst (v := 2) hx hb dL_law_723 (by decide) ?_
  refine lv_iadd hx hb dL_law_724 ?_
  refine va_sld hx hb hX hbl hbA hS (lx_in 2 hk6 hL (by decide)) dL_law_725 ?_
  refine lx_at 2 hk6 hL (by decide) ?_
  refine mI [.int r] C hP hPm hD hS (c_X12_leastSaid hm1) mv_X12_leastSaid q_1411 rv_X12 dL_law_726 ⟨Nat.le_of_ble_eq_true rfl, Nat.le_of_ble_eq_true rfl⟩ ⟨Nat.le_trans (Nat.le_add_right _ _) hcs.1, Nat.le_trans (Nat.le_add_right _ _) hcs.2⟩ rfl rfl (Nat.le_of_ble_eq_true rfl) hl.1 (fun H locs hP hPm hD hS => ?_)
  refine lv_icmp_eq (tgt := 1594) hx hb dL_law_729 (by decide) (fun _ => ?_) (fun z => absurd rfl z)
  refine W.widen (k := cells + 4) (n := slots + 267) (Nat.le_add_right _ _) (Nat.le_add_right _ _) ?_
  exact kk σ' τ' a H locs hRel2 (fun _ _ => rfl) hP hPm hD hS
set_option maxHeartbeats 4000000 in
set_option maxRecDepth 100000 in
theorem law_c15 {p : Program} {l : Launch} {e : Env} {s : State} {m : MethodId} {below : List Frame} {meth : Method} {c : Code} {g : va_G} {ts : ClassId × ClassId × ClassId} {Q : State → Prop} {b L : Nat} {xs : Nat → Int32} {a a2 : Nat → Nat} {σ τ : St} {H : Heap} {locs : List Loc} {cells slots k : Nat} {ls : Array Slot} {Rel Rel2 : St → St → Prop} (hstep : Step_15 Rel Rel2) (C : FX p s m #[Value.ref b] meth c RL cL_law 4 g ts (fun q : Nat => s.heap.size ≤ q)) (hO : va_AO "AsInBertha$Shelf" s) (hX : va_X b L xs s s.heap) (hbl : b < s.heap.size) (hbA : ¬ (fun q : Nat => s.heap.size ≤ q) b) (hL : L ≤ 3072) (hk6 : 6 * k + 6 ≤ L) (hRel : Rel σ τ) (hP : va_P g classes (WC ts a σ) H) (hPm : va_P g classes (WM ts a2 τ) H) (hD : va_D (fun q : Nat => s.heap.size ≤ q) (WC ts a σ ++ WM ts a2 τ)) (hS : va_S (fun q : Nat => s.heap.size ≤ q) s.heap H locs) (hcs : cells + 4 ≤ room_1.cells ∧ slots + 267 ≤ room_1.slots) (hl : lv_has ls 4 [(0, .ref b), (1, .ref (a 0)), (2, .ref (a2 0)), (3, .int (nI (6 * k)))]) (kk : ∀ (σ' τ' : St) (a' : Nat → Nat) (H : Heap) (locs : List Loc), Rel2 σ' τ' → keepA a a' → va_P g classes (WC ts a' σ') H → va_P g classes (WM ts a2 τ') H → va_D (fun q : Nat => s.heap.size ≤ q) (WC ts a' σ' ++ WM ts a2 τ') → va_S (fun q : Nat => s.heap.size ≤ q) s.heap H locs → W p l e room_1 s m #[Value.ref b] below meth c H locs (cells + 4) (slots + 267) Q (F0 m 1594 ls [])) : W p l e room_1 s m #[Value.ref b] below meth c H locs cells slots Q (F0 m 734 ls []) := by
  have hx := C.1
  have hb := C.2.1
  have hown := C.2.2.2.1
  have hts := C.2.2.2.2.1
  refine lv_aload_n hx hb dL_law_734 rfl (lv_at hl 1 rfl) ?_
  refine lv_aload_n hx hb dL_law_735 rfl (lv_at hl 0 rfl) ?_
  refine lv_iload_n hx hb dL_law_736 rfl (lv_at hl 3 rfl) ?_
  refine lv_iconst (v := 1) hx hb dL_law_737 (by decide) ?_
  refine lv_iadd hx hb dL_law_738 ?_
  refine va_sld hx hb hX hbl hbA hS (lx_in 1 hk6 hL (by decide)) dL_law_739 ?_
  refine lx_at 1 hk6 hL (by decide) ?_
  obtain ⟨r, σ', τ', hx1, hm1, hRel2⟩ := hstep σ τ (xs (6 * k + 1)) hRel
  refine xI [] C hP hPm hD hS (c_X11_worst hx1) mv_X11_worst q_785 rv_X11 dL_law_740 ⟨Nat.le_of_ble_eq_true rfl, Nat.le_of_ble_eq_true rfl⟩ ⟨Nat.le_trans (Nat.le_add_right _ _) hcs.1, Nat.le_trans (Nat.le_add_right _ _) hcs.2⟩ rfl rfl (Nat.le_of_ble_eq_true rfl) hl.1 (fun H locs hP hPm hD hS => ?_)
  refine lv_aload_n hx hb dL_law_743 rfl (lv_at hl 2 rfl) ?_
  refine lv_aload_n hx hb dL_law_744 rfl (lv_at hl 0 rfl) ?_
  refine lv_iload_n hx hb dL_law_745 rfl (lv_at hl 3 rfl) ?_
  refine lv_iconst (v := 1) hx hb dL_law_746 (by decide) ?_
  refine lv_iadd hx hb dL_law_747 ?_
  refine va_sld hx hb hX hbl hbA hS (lx_in 1 hk6 hL (by decide)) dL_law_748 ?_
  refine lx_at 1 hk6 hL (by decide) ?_
  refine mI [.int r] C hP hPm hD hS (c_X12_worst hm1) mv_X12_worst q_1415 rv_X12 dL_law_749 ⟨Nat.le_of_ble_eq_true rfl, Nat.le_of_ble_eq_true rfl⟩ ⟨Nat.le_trans (Nat.le_add_right _ _) hcs.1, Nat.le_trans (Nat.le_add_right _ _) hcs.2⟩ rfl rfl (Nat.le_of_ble_eq_true rfl) hl.1 (fun H locs hP hPm hD hS => ?_)
  refine lv_icmp_eq (tgt := 1594) hx hb dL_law_752 (by decide) (fun _ => ?_) (fun z => absurd rfl z)
  refine W.widen (k := cells + 4) (n := slots + 267) (Nat.le_add_right _ _) (Nat.le_add_right _ _) ?_
  exact kk σ' τ' a H locs hRel2 (fun _ _ => rfl) hP hPm hD hS
set_option maxHeartbeats 4000000 in
set_option maxRecDepth 100000 in
theorem law_c16 {p : Program} {l : Launch} {e : Env} {s : State} {m : MethodId} {below : List Frame} {meth : Method} {c : Code} {g : va_G} {ts : ClassId × ClassId × ClassId} {Q : State → Prop} {b L : Nat} {xs : Nat → Int32} {a a2 : Nat → Nat} {σ τ : St} {H : Heap} {locs : List Loc} {cells slots k : Nat} {ls : Array Slot} {Rel Rel2 : St → St → Prop} (hstep : Step_16 Rel Rel2) (C : FX p s m #[Value.ref b] meth c RL cL_law 4 g ts (fun q : Nat => s.heap.size ≤ q)) (hO : va_AO "AsInBertha$Shelf" s) (hX : va_X b L xs s s.heap) (hbl : b < s.heap.size) (hbA : ¬ (fun q : Nat => s.heap.size ≤ q) b) (hL : L ≤ 3072) (hk6 : 6 * k + 6 ≤ L) (hRel : Rel σ τ) (hP : va_P g classes (WC ts a σ) H) (hPm : va_P g classes (WM ts a2 τ) H) (hD : va_D (fun q : Nat => s.heap.size ≤ q) (WC ts a σ ++ WM ts a2 τ)) (hS : va_S (fun q : Nat => s.heap.size ≤ q) s.heap H locs) (hcs : cells + 4 ≤ room_1.cells ∧ slots + 267 ≤ room_1.slots) (hl : lv_has ls 4 [(0, .ref b), (1, .ref (a 0)), (2, .ref (a2 0)), (3, .int (nI (6 * k)))]) (kk : ∀ (σ' τ' : St) (a' : Nat → Nat) (H : Heap) (locs : List Loc), Rel2 σ' τ' → keepA a a' → va_P g classes (WC ts a' σ') H → va_P g classes (WM ts a2 τ') H → va_D (fun q : Nat => s.heap.size ≤ q) (WC ts a' σ' ++ WM ts a2 τ') → va_S (fun q : Nat => s.heap.size ≤ q) s.heap H locs → W p l e room_1 s m #[Value.ref b] below meth c H locs (cells + 4) (slots + 267) Q (F0 m 1594 ls [])) : W p l e room_1 s m #[Value.ref b] below meth c H locs cells slots Q (F0 m 757 ls []) := by
  have hx := C.1
  have hb := C.2.1
  have hown := C.2.2.2.1
  have hts := C.2.2.2.2.1
  refine lv_aload_n hx hb dL_law_757 rfl (lv_at hl 1 rfl) ?_
  refine lv_aload_n hx hb dL_law_758 rfl (lv_at hl 0 rfl) ?_
  refine lv_iload_n hx hb dL_law_759 rfl (lv_at hl 3 rfl) ?_
  refine lv_iconst (v := 1) hx hb dL_law_760 (by decide) ?_
  refine lv_iadd hx hb dL_law_761 ?_
  refine va_sld hx hb hX hbl hbA hS (lx_in 1 hk6 hL (by decide)) dL_law_762 ?_
  refine lx_at 1 hk6 hL (by decide) ?_
  refine lv_aload_n hx hb dL_law_763 rfl (lv_at hl 0 rfl) ?_
  refine lv_iload_n hx hb dL_law_764 rfl (lv_at hl 3 rfl) ?_
  refine lv_iconst (v := 2) hx hb dL_law_765 (by decide) ?_
  refine lv_iadd hx hb dL_law_766 ?_
  refine va_sld hx hb hX hbl hbA hS (lx_in 2 hk6 hL (by decide)) dL_law_767 ?_
  refine lx_at 2 hk6 hL (by decide) ?_
  obtain ⟨r, σ', τ', hx1, hm1, hRel2⟩ := hstep σ τ (xs (6 * k + 1)) (xs (6 * k + 2)) hRel
  refine xL [] C hP hPm hD hS (c_X11_confused hx1) mv_X11_confused q_793 rv_X11 dL_law_768 ⟨Nat.le_of_ble_eq_true rfl, Nat.le_of_ble_eq_true rfl⟩ ⟨Nat.le_trans (Nat.le_add_right _ _) hcs.1, Nat.le_trans (Nat.le_add_right _ _) hcs.2⟩ rfl rfl (Nat.le_of_ble_eq_true rfl) hl.1 (fun H locs hP hPm hD hS => ?_)
  refine lv_aload_n hx hb dL_law_771 rfl (lv_at hl 2 rfl) ?_
  refine lv_aload_n hx hb dL_law_772 rfl (lv_at hl 0 rfl) ?_
  refine lv_iload_n hx hb dL_law_773 rfl (lv_at hl 3 rfl) ?_
  refine lv_iconst (v := 1) hx hb dL_law_774 (by decide) ?_
  refine lv_iadd hx hb dL_law_775 ?_
  refine va_sld hx hb hX hbl hbA hS (lx_in 1 hk6 hL (by decide)) dL_law_776 ?_
  refine lx_at 1 hk6 hL (by decide) ?_
  refine lv_aload_n hx hb dL_law_777 rfl (lv_at hl 0 rfl) ?_
  refine lv_iload_n hx hb dL_law_778 rfl (lv_at hl 3 rfl) ?_
  refine lv_iconst (v := 2) hx hb dL_law_779 (by decide) ?_
  refine lv_iadd hx hb dL_law_780 ?_
  refine va_sld hx hb hX hbl hbA hS (lx_in 2 hk6 hL (by decide)) dL_law_781 ?_
  refine lx_at 2 hk6 hL (by decide) ?_
  refine mL [.long r] C hP hPm hD hS (c_X12_confused hm1) mv_X12_confused q_1419 rv_X12 dL_law_782 ⟨Nat.le_of_ble_eq_true rfl, Nat.le_of_ble_eq_true rfl⟩ ⟨Nat.le_trans (Nat.le_add_right _ _) hcs.1, Nat.le_trans (Nat.le_add_right _ _) hcs.2⟩ rfl rfl (Nat.le_of_ble_eq_true rfl) hl.1 (fun H locs hP hPm hD hS => ?_)
  refine lb_eq (tgt := 1594) hx hb dL_law_785 dL_law_786 (by decide) (fun _ => ?_) (fun z => absurd rfl z)
  refine W.widen (k := cells + 4) (n := slots + 267) (Nat.le_add_right _ _) (Nat.le_add_right _ _) ?_
  exact kk σ' τ' a H locs hRel2 (fun _ _ => rfl) hP hPm hD hS
set_option maxHeartbeats 4000000 in
set_option maxRecDepth 100000 in
theorem law_c17 {p : Program} {l : Launch} {e : Env} {s : State} {m : MethodId} {below : List Frame} {meth : Method} {c : Code} {g : va_G} {ts : ClassId × ClassId × ClassId} {Q : State → Prop} {b L : Nat} {xs : Nat → Int32} {a a2 : Nat → Nat} {σ τ : St} {H : Heap} {locs : List Loc} {cells slots k : Nat} {ls : Array Slot} {Rel Rel2 : St → St → Prop} (hstep : Step_17 Rel Rel2) (C : FX p s m #[Value.ref b] meth c RL cL_law 4 g ts (fun q : Nat => s.heap.size ≤ q)) (hO : va_AO "AsInBertha$Shelf" s) (hX : va_X b L xs s s.heap) (hbl : b < s.heap.size) (hbA : ¬ (fun q : Nat => s.heap.size ≤ q) b) (hL : L ≤ 3072) (hk6 : 6 * k + 6 ≤ L) (hRel : Rel σ τ) (hP : va_P g classes (WC ts a σ) H) (hPm : va_P g classes (WM ts a2 τ) H) (hD : va_D (fun q : Nat => s.heap.size ≤ q) (WC ts a σ ++ WM ts a2 τ)) (hS : va_S (fun q : Nat => s.heap.size ≤ q) s.heap H locs) (hcs : cells + 4 ≤ room_1.cells ∧ slots + 267 ≤ room_1.slots) (hl : lv_has ls 4 [(0, .ref b), (1, .ref (a 0)), (2, .ref (a2 0)), (3, .int (nI (6 * k)))]) (kk : ∀ (σ' τ' : St) (a' : Nat → Nat) (H : Heap) (locs : List Loc), Rel2 σ' τ' → keepA a a' → va_P g classes (WC ts a' σ') H → va_P g classes (WM ts a2 τ') H → va_D (fun q : Nat => s.heap.size ≤ q) (WC ts a' σ' ++ WM ts a2 τ') → va_S (fun q : Nat => s.heap.size ≤ q) s.heap H locs → W p l e room_1 s m #[Value.ref b] below meth c H locs (cells + 4) (slots + 267) Q (F0 m 1594 ls [])) : W p l e room_1 s m #[Value.ref b] below meth c H locs cells slots Q (F0 m 791 ls []) := by
  have hx := C.1
  have hb := C.2.1
  have hown := C.2.2.2.1
  have hts := C.2.2.2.2.1
  refine lv_aload_n hx hb dL_law_791 rfl (lv_at hl 1 rfl) ?_
  refine lv_aload_n hx hb dL_law_792 rfl (lv_at hl 0 rfl) ?_
  refine lv_iload_n hx hb dL_law_793 rfl (lv_at hl 3 rfl) ?_
  refine lv_iconst (v := 1) hx hb dL_law_794 (by decide) ?_
  refine lv_iadd hx hb dL_law_795 ?_
  refine va_sld hx hb hX hbl hbA hS (lx_in 1 hk6 hL (by decide)) dL_law_796 ?_
  refine lx_at 1 hk6 hL (by decide) ?_
  obtain ⟨r, σ', τ', hx1, hm1, hRel2⟩ := hstep σ τ (xs (6 * k + 1)) hRel
  refine xI [] C hP hPm hD hS (c_X11_nearest hx1) mv_X11_nearest q_805 rv_X11 dL_law_797 ⟨Nat.le_of_ble_eq_true rfl, Nat.le_of_ble_eq_true rfl⟩ ⟨Nat.le_trans (Nat.le_add_right _ _) hcs.1, Nat.le_trans (Nat.le_add_right _ _) hcs.2⟩ rfl rfl (Nat.le_of_ble_eq_true rfl) hl.1 (fun H locs hP hPm hD hS => ?_)
  refine lv_aload_n hx hb dL_law_800 rfl (lv_at hl 2 rfl) ?_
  refine lv_aload_n hx hb dL_law_801 rfl (lv_at hl 0 rfl) ?_
  refine lv_iload_n hx hb dL_law_802 rfl (lv_at hl 3 rfl) ?_
  refine lv_iconst (v := 1) hx hb dL_law_803 (by decide) ?_
  refine lv_iadd hx hb dL_law_804 ?_
  refine va_sld hx hb hX hbl hbA hS (lx_in 1 hk6 hL (by decide)) dL_law_805 ?_
  refine lx_at 1 hk6 hL (by decide) ?_
  refine mI [.int r] C hP hPm hD hS (c_X12_nearest hm1) mv_X12_nearest q_1431 rv_X12 dL_law_806 ⟨Nat.le_of_ble_eq_true rfl, Nat.le_of_ble_eq_true rfl⟩ ⟨Nat.le_trans (Nat.le_add_right _ _) hcs.1, Nat.le_trans (Nat.le_add_right _ _) hcs.2⟩ rfl rfl (Nat.le_of_ble_eq_true rfl) hl.1 (fun H locs hP hPm hD hS => ?_)
  refine lv_icmp_eq (tgt := 1594) hx hb dL_law_809 (by decide) (fun _ => ?_) (fun z => absurd rfl z)
  refine W.widen (k := cells + 4) (n := slots + 267) (Nat.le_add_right _ _) (Nat.le_add_right _ _) ?_
  exact kk σ' τ' a H locs hRel2 (fun _ _ => rfl) hP hPm hD hS
set_option maxHeartbeats 4000000 in
set_option maxRecDepth 100000 in
theorem law_c18 {p : Program} {l : Launch} {e : Env} {s : State} {m : MethodId} {below : List Frame} {meth : Method} {c : Code} {g : va_G} {ts : ClassId × ClassId × ClassId} {Q : State → Prop} {b L : Nat} {xs : Nat → Int32} {a a2 : Nat → Nat} {σ τ : St} {H : Heap} {locs : List Loc} {cells slots k : Nat} {ls : Array Slot} {Rel Rel2 : St → St → Prop} (hstep : Step_18 Rel Rel2) (C : FX p s m #[Value.ref b] meth c RL cL_law 4 g ts (fun q : Nat => s.heap.size ≤ q)) (hO : va_AO "AsInBertha$Shelf" s) (hX : va_X b L xs s s.heap) (hbl : b < s.heap.size) (hbA : ¬ (fun q : Nat => s.heap.size ≤ q) b) (hL : L ≤ 3072) (hk6 : 6 * k + 6 ≤ L) (hRel : Rel σ τ) (hP : va_P g classes (WC ts a σ) H) (hPm : va_P g classes (WM ts a2 τ) H) (hD : va_D (fun q : Nat => s.heap.size ≤ q) (WC ts a σ ++ WM ts a2 τ)) (hS : va_S (fun q : Nat => s.heap.size ≤ q) s.heap H locs) (hcs : cells + 4 ≤ room_1.cells ∧ slots + 267 ≤ room_1.slots) (hl : lv_has ls 4 [(0, .ref b), (1, .ref (a 0)), (2, .ref (a2 0)), (3, .int (nI (6 * k)))]) (kk : ∀ (σ' τ' : St) (a' : Nat → Nat) (H : Heap) (locs : List Loc), Rel2 σ' τ' → keepA a a' → va_P g classes (WC ts a' σ') H → va_P g classes (WM ts a2 τ') H → va_D (fun q : Nat => s.heap.size ≤ q) (WC ts a' σ' ++ WM ts a2 τ') → va_S (fun q : Nat => s.heap.size ≤ q) s.heap H locs → W p l e room_1 s m #[Value.ref b] below meth c H locs (cells + 4) (slots + 267) Q (F0 m 1594 ls [])) : W p l e room_1 s m #[Value.ref b] below meth c H locs cells slots Q (F0 m 814 ls []) := by
  have hx := C.1
  have hb := C.2.1
  have hown := C.2.2.2.1
  have hts := C.2.2.2.2.1
  refine lv_aload_n hx hb dL_law_814 rfl (lv_at hl 1 rfl) ?_
  obtain ⟨r, σ', τ', hx1, hm1, hRel2⟩ := hstep σ τ  hRel
  refine xI [] C hP hPm hD hS (c_X11_pairs hx1) mv_X11_pairs q_816 rv_X11 dL_law_815 ⟨Nat.le_of_ble_eq_true rfl, Nat.le_of_ble_eq_true rfl⟩ ⟨Nat.le_trans (Nat.le_add_right _ _) hcs.1, Nat.le_trans (Nat.le_add_right _ _) hcs.2⟩ rfl rfl (Nat.le_of_ble_eq_true rfl) hl.1 (fun H locs hP hPm hD hS => ?_)
  refine lv_aload_n hx hb dL_law_818 rfl (lv_at hl 2 rfl) ?_
  refine mI [.int r] C hP hPm hD hS (c_X12_pairs hm1) mv_X12_pairs q_1435 rv_X12 dL_law_819 ⟨Nat.le_of_ble_eq_true rfl, Nat.le_of_ble_eq_true rfl⟩ ⟨Nat.le_trans (Nat.le_add_right _ _) hcs.1, Nat.le_trans (Nat.le_add_right _ _) hcs.2⟩ rfl rfl (Nat.le_of_ble_eq_true rfl) hl.1 (fun H locs hP hPm hD hS => ?_)
  refine lv_icmp_eq (tgt := 1594) hx hb dL_law_822 (by decide) (fun _ => ?_) (fun z => absurd rfl z)
  refine W.widen (k := cells + 4) (n := slots + 267) (Nat.le_add_right _ _) (Nat.le_add_right _ _) ?_
  exact kk σ' τ' a H locs hRel2 (fun _ _ => rfl) hP hPm hD hS
set_option maxHeartbeats 4000000 in
set_option maxRecDepth 100000 in
theorem law_c19 {p : Program} {l : Launch} {e : Env} {s : State} {m : MethodId} {below : List Frame} {meth : Method} {c : Code} {g : va_G} {ts : ClassId × ClassId × ClassId} {Q : State → Prop} {b L : Nat} {xs : Nat → Int32} {a a2 : Nat → Nat} {σ τ : St} {H : Heap} {locs : List Loc} {cells slots k : Nat} {ls : Array Slot} {Rel Rel2 : St → St → Prop} (hstep : Step_19 Rel Rel2) (C : FX p s m #[Value.ref b] meth c RL cL_law 4 g ts (fun q : Nat => s.heap.size ≤ q)) (hO : va_AO "AsInBertha$Shelf" s) (hX : va_X b L xs s s.heap) (hbl : b < s.heap.size) (hbA : ¬ (fun q : Nat => s.heap.size ≤ q) b) (hL : L ≤ 3072) (hk6 : 6 * k + 6 ≤ L) (hRel : Rel σ τ) (hP : va_P g classes (WC ts a σ) H) (hPm : va_P g classes (WM ts a2 τ) H) (hD : va_D (fun q : Nat => s.heap.size ≤ q) (WC ts a σ ++ WM ts a2 τ)) (hS : va_S (fun q : Nat => s.heap.size ≤ q) s.heap H locs) (hcs : cells + 4 ≤ room_1.cells ∧ slots + 267 ≤ room_1.slots) (hl : lv_has ls 4 [(0, .ref b), (1, .ref (a 0)), (2, .ref (a2 0)), (3, .int (nI (6 * k)))]) (kk : ∀ (σ' τ' : St) (a' : Nat → Nat) (H : Heap) (locs : List Loc), Rel2 σ' τ' → keepA a a' → va_P g classes (WC ts a' σ') H → va_P g classes (WM ts a2 τ') H → va_D (fun q : Nat => s.heap.size ≤ q) (WC ts a' σ' ++ WM ts a2 τ') → va_S (fun q : Nat => s.heap.size ≤ q) s.heap H locs → W p l e room_1 s m #[Value.ref b] below meth c H locs (cells + 4) (slots + 267) Q (F0 m 1594 ls [])) : W p l e room_1 s m #[Value.ref b] below meth c H locs cells slots Q (F0 m 827 ls []) := by
  have hx := C.1
  have hb := C.2.1
  have hown := C.2.2.2.1
  have hts := C.2.2.2.2.1
  refine lv_aload_n hx hb dL_law_827 rfl (lv_at hl 1 rfl) ?_
  refine lv_aload_n hx hb dL_law_828 rfl (lv_at hl 0 rfl) ?_
  refine lv_iload_n hx hb dL_law_829 rfl (lv_at hl 3 rfl) ?_
  refine lv_iconst (v := 1) hx hb dL_law_830 (by decide) ?_
  refine lv_iadd hx hb dL_law_831 ?_
  refine va_sld hx hb hX hbl hbA hS (lx_in 1 hk6 hL (by decide)) dL_law_832 ?_
  refine lx_at 1 hk6 hL (by decide) ?_
  refine lv_aload_n hx hb dL_law_833 rfl (lv_at hl 0 rfl) ?_
  refine lv_iload_n hx hb dL_law_834 rfl (lv_at hl 3 rfl) ?_
  refine lv_iconst (v := 2) hx hb dL_law_835 (by decide) ?_
  refine lv_iadd hx hb dL_law_836 ?_
  refine va_sld hx hb hX hbl hbA hS (lx_in 2 hk6 hL (by decide)) dL_law_837 ?_
  refine lx_at 2 hk6 hL (by decide) ?_
  refine lv_aload_n hx hb dL_law_838 rfl (lv_at hl 0 rfl) ?_
  refine lv_iload_n hx hb dL_law_839 rfl (lv_at hl 3 rfl) ?_
  refine lv_iconst (v := 3) hx hb dL_law_840 (by decide) ?_
  refine lv_iadd hx hb dL_law_841 ?_
  refine va_sld hx hb hX hbl hbA hS (lx_in 3 hk6 hL (by decide)) dL_law_842 ?_
  refine lx_at 3 hk6 hL (by decide) ?_
  obtain ⟨r, σ', τ', hx1, hm1, hRel2⟩ := hstep σ τ (xs (6 * k + 1)) (xs (6 * k + 2)) (xs (6 * k + 3)) hRel
  refine xL [] C hP hPm hD hS (c_X11_sums hx1) mv_X11_sums q_824 rv_X11 dL_law_843 ⟨Nat.le_of_ble_eq_true rfl, Nat.le_of_ble_eq_true rfl⟩ ⟨Nat.le_trans (Nat.le_add_right _ _) hcs.1, Nat.le_trans (Nat.le_add_right _ _) hcs.2⟩ rfl rfl (Nat.le_of_ble_eq_true rfl) hl.1 (fun H locs hP hPm hD hS => ?_)
  refine lv_aload_n hx hb dL_law_846 rfl (lv_at hl 2 rfl) ?_
  refine lv_aload_n hx hb dL_law_847 rfl (lv_at hl 0 rfl) ?_
  refine lv_iload_n hx hb dL_law_848 rfl (lv_at hl 3 rfl) ?_
  refine lv_iconst (v := 1) hx hb dL_law_849 (by decide) ?_
  refine lv_iadd hx hb dL_law_850 ?_
  refine va_sld hx hb hX hbl hbA hS (lx_in 1 hk6 hL (by decide)) dL_law_851 ?_
  refine lx_at 1 hk6 hL (by decide) ?_
  refine lv_aload_n hx hb dL_law_852 rfl (lv_at hl 0 rfl) ?_
  refine lv_iload_n hx hb dL_law_853 rfl (lv_at hl 3 rfl) ?_
  refine lv_iconst (v := 2) hx hb dL_law_854 (by decide) ?_
  refine lv_iadd hx hb dL_law_855 ?_
  refine va_sld hx hb hX hbl hbA hS (lx_in 2 hk6 hL (by decide)) dL_law_856 ?_
  refine lx_at 2 hk6 hL (by decide) ?_
  refine lv_aload_n hx hb dL_law_857 rfl (lv_at hl 0 rfl) ?_
  refine lv_iload_n hx hb dL_law_858 rfl (lv_at hl 3 rfl) ?_
  refine lv_iconst (v := 3) hx hb dL_law_859 (by decide) ?_
  refine lv_iadd hx hb dL_law_860 ?_
  refine va_sld hx hb hX hbl hbA hS (lx_in 3 hk6 hL (by decide)) dL_law_861 ?_
  refine lx_at 3 hk6 hL (by decide) ?_
  refine mL [.long r] C hP hPm hD hS (c_X12_sums hm1) mv_X12_sums q_1439 rv_X12 dL_law_862 ⟨Nat.le_of_ble_eq_true rfl, Nat.le_of_ble_eq_true rfl⟩ ⟨Nat.le_trans (Nat.le_add_right _ _) hcs.1, Nat.le_trans (Nat.le_add_right _ _) hcs.2⟩ rfl rfl (Nat.le_of_ble_eq_true rfl) hl.1 (fun H locs hP hPm hD hS => ?_)
  refine lb_eq (tgt := 1594) hx hb dL_law_865 dL_law_866 (by decide) (fun _ => ?_) (fun z => absurd rfl z)
  refine W.widen (k := cells + 4) (n := slots + 267) (Nat.le_add_right _ _) (Nat.le_add_right _ _) ?_
  exact kk σ' τ' a H locs hRel2 (fun _ _ => rfl) hP hPm hD hS
set_option maxHeartbeats 4000000 in
set_option maxRecDepth 100000 in
theorem law_c20 {p : Program} {l : Launch} {e : Env} {s : State} {m : MethodId} {below : List Frame} {meth : Method} {c : Code} {g : va_G} {ts : ClassId × ClassId × ClassId} {Q : State → Prop} {b L : Nat} {xs : Nat → Int32} {a a2 : Nat → Nat} {σ τ : St} {H : Heap} {locs : List Loc} {cells slots k : Nat} {ls : Array Slot} {Rel Rel2 : St → St → Prop} (hstep : Step_20 Rel Rel2) (C : FX p s m #[Value.ref b] meth c RL cL_law 4 g ts (fun q : Nat => s.heap.size ≤ q)) (hO : va_AO "AsInBertha$Shelf" s) (hX : va_X b L xs s s.heap) (hbl : b < s.heap.size) (hbA : ¬ (fun q : Nat => s.heap.size ≤ q) b) (hL : L ≤ 3072) (hk6 : 6 * k + 6 ≤ L) (hRel : Rel σ τ) (hP : va_P g classes (WC ts a σ) H) (hPm : va_P g classes (WM ts a2 τ) H) (hD : va_D (fun q : Nat => s.heap.size ≤ q) (WC ts a σ ++ WM ts a2 τ)) (hS : va_S (fun q : Nat => s.heap.size ≤ q) s.heap H locs) (hcs : cells + 4 ≤ room_1.cells ∧ slots + 267 ≤ room_1.slots) (hl : lv_has ls 4 [(0, .ref b), (1, .ref (a 0)), (2, .ref (a2 0)), (3, .int (nI (6 * k)))]) (kk : ∀ (σ' τ' : St) (a' : Nat → Nat) (H : Heap) (locs : List Loc), Rel2 σ' τ' → keepA a a' → va_P g classes (WC ts a' σ') H → va_P g classes (WM ts a2 τ') H → va_D (fun q : Nat => s.heap.size ≤ q) (WC ts a' σ' ++ WM ts a2 τ') → va_S (fun q : Nat => s.heap.size ≤ q) s.heap H locs → W p l e room_1 s m #[Value.ref b] below meth c H locs (cells + 4) (slots + 267) Q (F0 m 1594 ls [])) : W p l e room_1 s m #[Value.ref b] below meth c H locs cells slots Q (F0 m 871 ls []) := by
  have hx := C.1
  have hb := C.2.1
  have hown := C.2.2.2.1
  have hts := C.2.2.2.2.1
  refine lv_aload_n hx hb dL_law_871 rfl (lv_at hl 1 rfl) ?_
  refine lv_aload_n hx hb dL_law_872 rfl (lv_at hl 0 rfl) ?_
  refine lv_iload_n hx hb dL_law_873 rfl (lv_at hl 3 rfl) ?_
  refine lv_iconst (v := 1) hx hb dL_law_874 (by decide) ?_
  refine lv_iadd hx hb dL_law_875 ?_
  refine va_sld hx hb hX hbl hbA hS (lx_in 1 hk6 hL (by decide)) dL_law_876 ?_
  refine lx_at 1 hk6 hL (by decide) ?_
  refine lv_aload_n hx hb dL_law_877 rfl (lv_at hl 0 rfl) ?_
  refine lv_iload_n hx hb dL_law_878 rfl (lv_at hl 3 rfl) ?_
  refine lv_iconst (v := 2) hx hb dL_law_879 (by decide) ?_
  refine lv_iadd hx hb dL_law_880 ?_
  refine va_sld hx hb hX hbl hbA hS (lx_in 2 hk6 hL (by decide)) dL_law_881 ?_
  refine lx_at 2 hk6 hL (by decide) ?_
  obtain ⟨r, σ', τ', hx1, hm1, hRel2⟩ := hstep σ τ (xs (6 * k + 1)) (xs (6 * k + 2)) hRel
  refine xI [] C hP hPm hD hS (c_X11_stop hx1) mv_X11_stop q_841 rv_X11 dL_law_882 ⟨Nat.le_of_ble_eq_true rfl, Nat.le_of_ble_eq_true rfl⟩ ⟨Nat.le_trans (Nat.le_add_right _ _) hcs.1, Nat.le_trans (Nat.le_add_right _ _) hcs.2⟩ rfl rfl (Nat.le_of_ble_eq_true rfl) hl.1 (fun H locs hP hPm hD hS => ?_)
  refine lv_aload_n hx hb dL_law_885 rfl (lv_at hl 2 rfl) ?_
  refine lv_aload_n hx hb dL_law_886 rfl (lv_at hl 0 rfl) ?_
  refine lv_iload_n hx hb dL_law_887 rfl (lv_at hl 3 rfl) ?_
  refine lv_iconst (v := 1) hx hb dL_law_888 (by decide) ?_
  refine lv_iadd hx hb dL_law_889 ?_
  refine va_sld hx hb hX hbl hbA hS (lx_in 1 hk6 hL (by decide)) dL_law_890 ?_
  refine lx_at 1 hk6 hL (by decide) ?_
  refine lv_aload_n hx hb dL_law_891 rfl (lv_at hl 0 rfl) ?_
  refine lv_iload_n hx hb dL_law_892 rfl (lv_at hl 3 rfl) ?_
  refine lv_iconst (v := 2) hx hb dL_law_893 (by decide) ?_
  refine lv_iadd hx hb dL_law_894 ?_
  refine va_sld hx hb hX hbl hbA hS (lx_in 2 hk6 hL (by decide)) dL_law_895 ?_
  refine lx_at 2 hk6 hL (by decide) ?_
  refine mI [.int r] C hP hPm hD hS (c_X12_stop hm1) mv_X12_stop q_1448 rv_X12 dL_law_896 ⟨Nat.le_of_ble_eq_true rfl, Nat.le_of_ble_eq_true rfl⟩ ⟨Nat.le_trans (Nat.le_add_right _ _) hcs.1, Nat.le_trans (Nat.le_add_right _ _) hcs.2⟩ rfl rfl (Nat.le_of_ble_eq_true rfl) hl.1 (fun H locs hP hPm hD hS => ?_)
  refine lv_icmp_eq (tgt := 1594) hx hb dL_law_899 (by decide) (fun _ => ?_) (fun z => absurd rfl z)
  refine W.widen (k := cells + 4) (n := slots + 267) (Nat.le_add_right _ _) (Nat.le_add_right _ _) ?_
  exact kk σ' τ' a H locs hRel2 (fun _ _ => rfl) hP hPm hD hS
set_option maxHeartbeats 4000000 in
set_option maxRecDepth 100000 in
theorem law_c21 {p : Program} {l : Launch} {e : Env} {s : State} {m : MethodId} {below : List Frame} {meth : Method} {c : Code} {g : va_G} {ts : ClassId × ClassId × ClassId} {Q : State → Prop} {b L : Nat} {xs : Nat → Int32} {a a2 : Nat → Nat} {σ τ : St} {H : Heap} {locs : List Loc} {cells slots k : Nat} {ls : Array Slot} {Rel Rel2 : St → St → Prop} (hstep : Step_21 Rel Rel2) (C : FX p s m #[Value.ref b] meth c RL cL_law 4 g ts (fun q : Nat => s.heap.size ≤ q)) (hO : va_AO "AsInBertha$Shelf" s) (hX : va_X b L xs s s.heap) (hbl : b < s.heap.size) (hbA : ¬ (fun q : Nat => s.heap.size ≤ q) b) (hL : L ≤ 3072) (hk6 : 6 * k + 6 ≤ L) (hRel : Rel σ τ) (hP : va_P g classes (WC ts a σ) H) (hPm : va_P g classes (WM ts a2 τ) H) (hD : va_D (fun q : Nat => s.heap.size ≤ q) (WC ts a σ ++ WM ts a2 τ)) (hS : va_S (fun q : Nat => s.heap.size ≤ q) s.heap H locs) (hcs : cells + 4 ≤ room_1.cells ∧ slots + 267 ≤ room_1.slots) (hl : lv_has ls 4 [(0, .ref b), (1, .ref (a 0)), (2, .ref (a2 0)), (3, .int (nI (6 * k)))]) (kk : ∀ (σ' τ' : St) (a' : Nat → Nat) (H : Heap) (locs : List Loc), Rel2 σ' τ' → keepA a a' → va_P g classes (WC ts a' σ') H → va_P g classes (WM ts a2 τ') H → va_D (fun q : Nat => s.heap.size ≤ q) (WC ts a' σ' ++ WM ts a2 τ') → va_S (fun q : Nat => s.heap.size ≤ q) s.heap H locs → W p l e room_1 s m #[Value.ref b] below meth c H locs (cells + 4) (slots + 267) Q (F0 m 1594 ls [])) : W p l e room_1 s m #[Value.ref b] below meth c H locs cells slots Q (F0 m 904 ls []) := by
  have hx := C.1
  have hb := C.2.1
  have hown := C.2.2.2.1
  have hts := C.2.2.2.2.1
  refine lv_aload_n hx hb dL_law_904 rfl (lv_at hl 1 rfl) ?_
  refine lv_aload_n hx hb dL_law_905 rfl (lv_at hl 0 rfl) ?_
  refine lv_iload_n hx hb dL_law_906 rfl (lv_at hl 3 rfl) ?_
  refine lv_iconst (v := 1) hx hb dL_law_907 (by decide) ?_
  refine lv_iadd hx hb dL_law_908 ?_
  refine va_sld hx hb hX hbl hbA hS (lx_in 1 hk6 hL (by decide)) dL_law_909 ?_
  refine lx_at 1 hk6 hL (by decide) ?_
  obtain ⟨r, σ', τ', hx1, hm1, hRel2⟩ := hstep σ τ (xs (6 * k + 1)) hRel
  refine xI [] C hP hPm hD hS (c_X11_who hx1) mv_X11_who q_849 rv_X11 dL_law_910 ⟨Nat.le_of_ble_eq_true rfl, Nat.le_of_ble_eq_true rfl⟩ ⟨Nat.le_trans (Nat.le_add_right _ _) hcs.1, Nat.le_trans (Nat.le_add_right _ _) hcs.2⟩ rfl rfl (Nat.le_of_ble_eq_true rfl) hl.1 (fun H locs hP hPm hD hS => ?_)
  refine lv_aload_n hx hb dL_law_913 rfl (lv_at hl 2 rfl) ?_
  refine lv_aload_n hx hb dL_law_914 rfl (lv_at hl 0 rfl) ?_
  refine lv_iload_n hx hb dL_law_915 rfl (lv_at hl 3 rfl) ?_
  refine lv_iconst (v := 1) hx hb dL_law_916 (by decide) ?_
  refine lv_iadd hx hb dL_law_917 ?_
  refine va_sld hx hb hX hbl hbA hS (lx_in 1 hk6 hL (by decide)) dL_law_918 ?_
  refine lx_at 1 hk6 hL (by decide) ?_
  refine mI [.int r] C hP hPm hD hS (c_X12_who hm1) mv_X12_who q_1453 rv_X12 dL_law_919 ⟨Nat.le_of_ble_eq_true rfl, Nat.le_of_ble_eq_true rfl⟩ ⟨Nat.le_trans (Nat.le_add_right _ _) hcs.1, Nat.le_trans (Nat.le_add_right _ _) hcs.2⟩ rfl rfl (Nat.le_of_ble_eq_true rfl) hl.1 (fun H locs hP hPm hD hS => ?_)
  refine lv_icmp_eq (tgt := 1594) hx hb dL_law_922 (by decide) (fun _ => ?_) (fun z => absurd rfl z)
  refine W.widen (k := cells + 4) (n := slots + 267) (Nat.le_add_right _ _) (Nat.le_add_right _ _) ?_
  exact kk σ' τ' a H locs hRel2 (fun _ _ => rfl) hP hPm hD hS
set_option maxHeartbeats 4000000 in
set_option maxRecDepth 100000 in
theorem law_c22 {p : Program} {l : Launch} {e : Env} {s : State} {m : MethodId} {below : List Frame} {meth : Method} {c : Code} {g : va_G} {ts : ClassId × ClassId × ClassId} {Q : State → Prop} {b L : Nat} {xs : Nat → Int32} {a a2 : Nat → Nat} {σ τ : St} {H : Heap} {locs : List Loc} {cells slots k : Nat} {ls : Array Slot} {Rel Rel2 : St → St → Prop} (hstep : Step_22 Rel Rel2) (C : FX p s m #[Value.ref b] meth c RL cL_law 4 g ts (fun q : Nat => s.heap.size ≤ q)) (hO : va_AO "AsInBertha$Shelf" s) (hX : va_X b L xs s s.heap) (hbl : b < s.heap.size) (hbA : ¬ (fun q : Nat => s.heap.size ≤ q) b) (hL : L ≤ 3072) (hk6 : 6 * k + 6 ≤ L) (hRel : Rel σ τ) (hP : va_P g classes (WC ts a σ) H) (hPm : va_P g classes (WM ts a2 τ) H) (hD : va_D (fun q : Nat => s.heap.size ≤ q) (WC ts a σ ++ WM ts a2 τ)) (hS : va_S (fun q : Nat => s.heap.size ≤ q) s.heap H locs) (hcs : cells + 4 ≤ room_1.cells ∧ slots + 267 ≤ room_1.slots) (hl : lv_has ls 4 [(0, .ref b), (1, .ref (a 0)), (2, .ref (a2 0)), (3, .int (nI (6 * k)))]) (kk : ∀ (σ' τ' : St) (a' : Nat → Nat) (H : Heap) (locs : List Loc), Rel2 σ' τ' → keepA a a' → va_P g classes (WC ts a' σ') H → va_P g classes (WM ts a2 τ') H → va_D (fun q : Nat => s.heap.size ≤ q) (WC ts a' σ' ++ WM ts a2 τ') → va_S (fun q : Nat => s.heap.size ≤ q) s.heap H locs → W p l e room_1 s m #[Value.ref b] below meth c H locs (cells + 4) (slots + 267) Q (F0 m 1594 ls [])) : W p l e room_1 s m #[Value.ref b] below meth c H locs cells slots Q (F0 m 927 ls []) := by
  have hx := C.1
  have hb := C.2.1
  have hown := C.2.2.2.1
  have hts := C.2.2.2.2.1
  refine lv_aload_n hx hb dL_law_927 rfl (lv_at hl 1 rfl) ?_
  refine lv_aload_n hx hb dL_law_928 rfl (lv_at hl 0 rfl) ?_
  refine lv_iload_n hx hb dL_law_929 rfl (lv_at hl 3 rfl) ?_
  refine lv_iconst (v := 1) hx hb dL_law_930 (by decide) ?_
  refine lv_iadd hx hb dL_law_931 ?_
  refine va_sld hx hb hX hbl hbA hS (lx_in 1 hk6 hL (by decide)) dL_law_932 ?_
  refine lx_at 1 hk6 hL (by decide) ?_
  obtain ⟨r, σ', τ', hx1, hm1, hRel2⟩ := hstep σ τ (xs (6 * k + 1)) hRel
  refine xI [] C hP hPm hD hS (c_X11_odd hx1) mv_X11_odd q_862 rv_X11 dL_law_933 ⟨Nat.le_of_ble_eq_true rfl, Nat.le_of_ble_eq_true rfl⟩ ⟨Nat.le_trans (Nat.le_add_right _ _) hcs.1, Nat.le_trans (Nat.le_add_right _ _) hcs.2⟩ rfl rfl (Nat.le_of_ble_eq_true rfl) hl.1 (fun H locs hP hPm hD hS => ?_)
  refine lv_aload_n hx hb dL_law_936 rfl (lv_at hl 2 rfl) ?_
  refine lv_aload_n hx hb dL_law_937 rfl (lv_at hl 0 rfl) ?_
  refine lv_iload_n hx hb dL_law_938 rfl (lv_at hl 3 rfl) ?_
  refine lv_iconst (v := 1) hx hb dL_law_939 (by decide) ?_
  refine lv_iadd hx hb dL_law_940 ?_
  refine va_sld hx hb hX hbl hbA hS (lx_in 1 hk6 hL (by decide)) dL_law_941 ?_
  refine lx_at 1 hk6 hL (by decide) ?_
  refine mI [.int r] C hP hPm hD hS (c_X12_odd hm1) mv_X12_odd q_1461 rv_X12 dL_law_942 ⟨Nat.le_of_ble_eq_true rfl, Nat.le_of_ble_eq_true rfl⟩ ⟨Nat.le_trans (Nat.le_add_right _ _) hcs.1, Nat.le_trans (Nat.le_add_right _ _) hcs.2⟩ rfl rfl (Nat.le_of_ble_eq_true rfl) hl.1 (fun H locs hP hPm hD hS => ?_)
  refine lv_icmp_eq (tgt := 1594) hx hb dL_law_945 (by decide) (fun _ => ?_) (fun z => absurd rfl z)
  refine W.widen (k := cells + 4) (n := slots + 267) (Nat.le_add_right _ _) (Nat.le_add_right _ _) ?_
  exact kk σ' τ' a H locs hRel2 (fun _ _ => rfl) hP hPm hD hS
set_option maxHeartbeats 4000000 in
set_option maxRecDepth 100000 in
theorem law_c23 {p : Program} {l : Launch} {e : Env} {s : State} {m : MethodId} {below : List Frame} {meth : Method} {c : Code} {g : va_G} {ts : ClassId × ClassId × ClassId} {Q : State → Prop} {b L : Nat} {xs : Nat → Int32} {a a2 : Nat → Nat} {σ τ : St} {H : Heap} {locs : List Loc} {cells slots k : Nat} {ls : Array Slot} {Rel Rel2 : St → St → Prop} (hstep : Step_23 Rel Rel2) (C : FX p s m #[Value.ref b] meth c RL cL_law 4 g ts (fun q : Nat => s.heap.size ≤ q)) (hO : va_AO "AsInBertha$Shelf" s) (hX : va_X b L xs s s.heap) (hbl : b < s.heap.size) (hbA : ¬ (fun q : Nat => s.heap.size ≤ q) b) (hL : L ≤ 3072) (hk6 : 6 * k + 6 ≤ L) (hRel : Rel σ τ) (hP : va_P g classes (WC ts a σ) H) (hPm : va_P g classes (WM ts a2 τ) H) (hD : va_D (fun q : Nat => s.heap.size ≤ q) (WC ts a σ ++ WM ts a2 τ)) (hS : va_S (fun q : Nat => s.heap.size ≤ q) s.heap H locs) (hcs : cells + 4 ≤ room_1.cells ∧ slots + 267 ≤ room_1.slots) (hl : lv_has ls 4 [(0, .ref b), (1, .ref (a 0)), (2, .ref (a2 0)), (3, .int (nI (6 * k)))]) (kk : ∀ (σ' τ' : St) (a' : Nat → Nat) (H : Heap) (locs : List Loc), Rel2 σ' τ' → keepA a a' → va_P g classes (WC ts a' σ') H → va_P g classes (WM ts a2 τ') H → va_D (fun q : Nat => s.heap.size ≤ q) (WC ts a' σ' ++ WM ts a2 τ') → va_S (fun q : Nat => s.heap.size ≤ q) s.heap H locs → W p l e room_1 s m #[Value.ref b] below meth c H locs (cells + 4) (slots + 267) Q (F0 m 1594 ls [])) : W p l e room_1 s m #[Value.ref b] below meth c H locs cells slots Q (F0 m 950 ls []) := by
  have hx := C.1
  have hb := C.2.1
  have hown := C.2.2.2.1
  have hts := C.2.2.2.2.1
  refine lv_aload_n hx hb dL_law_950 rfl (lv_at hl 1 rfl) ?_
  refine lv_aload_n hx hb dL_law_951 rfl (lv_at hl 0 rfl) ?_
  refine lv_iload_n hx hb dL_law_952 rfl (lv_at hl 3 rfl) ?_
  refine lv_iconst (v := 1) hx hb dL_law_953 (by decide) ?_
  refine lv_iadd hx hb dL_law_954 ?_
  refine va_sld hx hb hX hbl hbA hS (lx_in 1 hk6 hL (by decide)) dL_law_955 ?_
  refine lx_at 1 hk6 hL (by decide) ?_
  refine lv_aload_n hx hb dL_law_956 rfl (lv_at hl 0 rfl) ?_
  refine lv_iload_n hx hb dL_law_957 rfl (lv_at hl 3 rfl) ?_
  refine lv_iconst (v := 2) hx hb dL_law_958 (by decide) ?_
  refine lv_iadd hx hb dL_law_959 ?_
  refine va_sld hx hb hX hbl hbA hS (lx_in 2 hk6 hL (by decide)) dL_law_960 ?_
  refine lx_at 2 hk6 hL (by decide) ?_
  obtain ⟨r, σ', τ', hx1, hm1, hRel2⟩ := hstep σ τ (xs (6 * k + 1)) (xs (6 * k + 2)) hRel
  refine xI [] C hP hPm hD hS (c_X11_fits hx1) mv_X11_fits q_870 rv_X11 dL_law_961 ⟨Nat.le_of_ble_eq_true rfl, Nat.le_of_ble_eq_true rfl⟩ ⟨Nat.le_trans (Nat.le_add_right _ _) hcs.1, Nat.le_trans (Nat.le_add_right _ _) hcs.2⟩ rfl rfl (Nat.le_of_ble_eq_true rfl) hl.1 (fun H locs hP hPm hD hS => ?_)
  refine lv_aload_n hx hb dL_law_964 rfl (lv_at hl 2 rfl) ?_
  refine lv_aload_n hx hb dL_law_965 rfl (lv_at hl 0 rfl) ?_
  refine lv_iload_n hx hb dL_law_966 rfl (lv_at hl 3 rfl) ?_
  refine lv_iconst (v := 1) hx hb dL_law_967 (by decide) ?_
  refine lv_iadd hx hb dL_law_968 ?_
  refine va_sld hx hb hX hbl hbA hS (lx_in 1 hk6 hL (by decide)) dL_law_969 ?_
  refine lx_at 1 hk6 hL (by decide) ?_
  refine lv_aload_n hx hb dL_law_970 rfl (lv_at hl 0 rfl) ?_
  refine lv_iload_n hx hb dL_law_971 rfl (lv_at hl 3 rfl) ?_
  refine lv_iconst (v := 2) hx hb dL_law_972 (by decide) ?_
  refine lv_iadd hx hb dL_law_973 ?_
  refine va_sld hx hb hX hbl hbA hS (lx_in 2 hk6 hL (by decide)) dL_law_974 ?_
  refine lx_at 2 hk6 hL (by decide) ?_
  refine mI [.int r] C hP hPm hD hS (c_X12_fits hm1) mv_X12_fits q_1466 rv_X12 dL_law_975 ⟨Nat.le_of_ble_eq_true rfl, Nat.le_of_ble_eq_true rfl⟩ ⟨Nat.le_trans (Nat.le_add_right _ _) hcs.1, Nat.le_trans (Nat.le_add_right _ _) hcs.2⟩ rfl rfl (Nat.le_of_ble_eq_true rfl) hl.1 (fun H locs hP hPm hD hS => ?_)
  refine lv_icmp_eq (tgt := 1594) hx hb dL_law_978 (by decide) (fun _ => ?_) (fun z => absurd rfl z)
  refine W.widen (k := cells + 4) (n := slots + 267) (Nat.le_add_right _ _) (Nat.le_add_right _ _) ?_
  exact kk σ' τ' a H locs hRel2 (fun _ _ => rfl) hP hPm hD hS
set_option maxHeartbeats 4000000 in
set_option maxRecDepth 100000 in
theorem law_c24 {p : Program} {l : Launch} {e : Env} {s : State} {m : MethodId} {below : List Frame} {meth : Method} {c : Code} {g : va_G} {ts : ClassId × ClassId × ClassId} {Q : State → Prop} {b L : Nat} {xs : Nat → Int32} {a a2 : Nat → Nat} {σ τ : St} {H : Heap} {locs : List Loc} {cells slots k : Nat} {ls : Array Slot} {Rel Rel2 : St → St → Prop} (hstep : Step_24 Rel Rel2) (C : FX p s m #[Value.ref b] meth c RL cL_law 4 g ts (fun q : Nat => s.heap.size ≤ q)) (hO : va_AO "AsInBertha$Shelf" s) (hX : va_X b L xs s s.heap) (hbl : b < s.heap.size) (hbA : ¬ (fun q : Nat => s.heap.size ≤ q) b) (hL : L ≤ 3072) (hk6 : 6 * k + 6 ≤ L) (hRel : Rel σ τ) (hP : va_P g classes (WC ts a σ) H) (hPm : va_P g classes (WM ts a2 τ) H) (hD : va_D (fun q : Nat => s.heap.size ≤ q) (WC ts a σ ++ WM ts a2 τ)) (hS : va_S (fun q : Nat => s.heap.size ≤ q) s.heap H locs) (hcs : cells + 4 ≤ room_1.cells ∧ slots + 267 ≤ room_1.slots) (hl : lv_has ls 4 [(0, .ref b), (1, .ref (a 0)), (2, .ref (a2 0)), (3, .int (nI (6 * k)))]) (kk : ∀ (σ' τ' : St) (a' : Nat → Nat) (H : Heap) (locs : List Loc), Rel2 σ' τ' → keepA a a' → va_P g classes (WC ts a' σ') H → va_P g classes (WM ts a2 τ') H → va_D (fun q : Nat => s.heap.size ≤ q) (WC ts a' σ' ++ WM ts a2 τ') → va_S (fun q : Nat => s.heap.size ≤ q) s.heap H locs → W p l e room_1 s m #[Value.ref b] below meth c H locs (cells + 4) (slots + 267) Q (F0 m 1594 ls [])) : W p l e room_1 s m #[Value.ref b] below meth c H locs cells slots Q (F0 m 983 ls []) := by
  have hx := C.1
  have hb := C.2.1
  have hown := C.2.2.2.1
  have hts := C.2.2.2.2.1
  refine lv_aload_n hx hb dL_law_983 rfl (lv_at hl 1 rfl) ?_
  refine lv_aload_n hx hb dL_law_984 rfl (lv_at hl 0 rfl) ?_
  refine lv_iload_n hx hb dL_law_985 rfl (lv_at hl 3 rfl) ?_
  refine lv_iconst (v := 1) hx hb dL_law_986 (by decide) ?_
  refine lv_iadd hx hb dL_law_987 ?_
  refine va_sld hx hb hX hbl hbA hS (lx_in 1 hk6 hL (by decide)) dL_law_988 ?_
  refine lx_at 1 hk6 hL (by decide) ?_
  refine lv_aload_n hx hb dL_law_989 rfl (lv_at hl 0 rfl) ?_
  refine lv_iload_n hx hb dL_law_990 rfl (lv_at hl 3 rfl) ?_
  refine lv_iconst (v := 2) hx hb dL_law_991 (by decide) ?_
  refine lv_iadd hx hb dL_law_992 ?_
  refine va_sld hx hb hX hbl hbA hS (lx_in 2 hk6 hL (by decide)) dL_law_993 ?_
  refine lx_at 2 hk6 hL (by decide) ?_
  refine lv_aload_n hx hb dL_law_994 rfl (lv_at hl 0 rfl) ?_
  refine lv_iload_n hx hb dL_law_995 rfl (lv_at hl 3 rfl) ?_
  refine lv_iconst (v := 3) hx hb dL_law_996 (by decide) ?_
  refine lv_iadd hx hb dL_law_997 ?_
  refine va_sld hx hb hX hbl hbA hS (lx_in 3 hk6 hL (by decide)) dL_law_998 ?_
  refine lx_at 3 hk6 hL (by decide) ?_
  obtain ⟨r, σ', τ', hx1, hm1, hRel2⟩ := hstep σ τ (xs (6 * k + 1)) (xs (6 * k + 2)) (xs (6 * k + 3)) hRel
  refine xI [] C hP hPm hD hS (c_X11_drawn hx1) mv_X11_drawn q_875 rv_X11 dL_law_999 ⟨Nat.le_of_ble_eq_true rfl, Nat.le_of_ble_eq_true rfl⟩ ⟨Nat.le_trans (Nat.le_add_right _ _) hcs.1, Nat.le_trans (Nat.le_add_right _ _) hcs.2⟩ rfl rfl (Nat.le_of_ble_eq_true rfl) hl.1 (fun H locs hP hPm hD hS => ?_)
  refine lv_aload_n hx hb dL_law_1002 rfl (lv_at hl 2 rfl) ?_
  refine lv_aload_n hx hb dL_law_1003 rfl (lv_at hl 0 rfl) ?_
  refine lv_iload_n hx hb dL_law_1004 rfl (lv_at hl 3 rfl) ?_
  refine lv_iconst (v := 1) hx hb dL_law_1005 (by decide) ?_
  refine lv_iadd hx hb dL_law_1006 ?_
  refine va_sld hx hb hX hbl hbA hS (lx_in 1 hk6 hL (by decide)) dL_law_1007 ?_
  refine lx_at 1 hk6 hL (by decide) ?_
  refine lv_aload_n hx hb dL_law_1008 rfl (lv_at hl 0 rfl) ?_
  refine lv_iload_n hx hb dL_law_1009 rfl (lv_at hl 3 rfl) ?_
  refine lv_iconst (v := 2) hx hb dL_law_1010 (by decide) ?_
  refine lv_iadd hx hb dL_law_1011 ?_
  refine va_sld hx hb hX hbl hbA hS (lx_in 2 hk6 hL (by decide)) dL_law_1012 ?_
  refine lx_at 2 hk6 hL (by decide) ?_
  refine lv_aload_n hx hb dL_law_1013 rfl (lv_at hl 0 rfl) ?_
  refine lv_iload_n hx hb dL_law_1014 rfl (lv_at hl 3 rfl) ?_
  refine lv_iconst (v := 3) hx hb dL_law_1015 (by decide) ?_
  refine lv_iadd hx hb dL_law_1016 ?_
  refine va_sld hx hb hX hbl hbA hS (lx_in 3 hk6 hL (by decide)) dL_law_1017 ?_
  refine lx_at 3 hk6 hL (by decide) ?_
  refine mI [.int r] C hP hPm hD hS (c_X12_drawn hm1) mv_X12_drawn q_1470 rv_X12 dL_law_1018 ⟨Nat.le_of_ble_eq_true rfl, Nat.le_of_ble_eq_true rfl⟩ ⟨Nat.le_trans (Nat.le_add_right _ _) hcs.1, Nat.le_trans (Nat.le_add_right _ _) hcs.2⟩ rfl rfl (Nat.le_of_ble_eq_true rfl) hl.1 (fun H locs hP hPm hD hS => ?_)
  refine lv_icmp_eq (tgt := 1594) hx hb dL_law_1021 (by decide) (fun _ => ?_) (fun z => absurd rfl z)
  refine W.widen (k := cells + 4) (n := slots + 267) (Nat.le_add_right _ _) (Nat.le_add_right _ _) ?_
  exact kk σ' τ' a H locs hRel2 (fun _ _ => rfl) hP hPm hD hS
set_option maxHeartbeats 4000000 in
set_option maxRecDepth 100000 in
theorem law_c25 {p : Program} {l : Launch} {e : Env} {s : State} {m : MethodId} {below : List Frame} {meth : Method} {c : Code} {g : va_G} {ts : ClassId × ClassId × ClassId} {Q : State → Prop} {b L : Nat} {xs : Nat → Int32} {a a2 : Nat → Nat} {σ τ : St} {H : Heap} {locs : List Loc} {cells slots k : Nat} {ls : Array Slot} {Rel Rel2 : St → St → Prop} (hstep : Step_25 Rel Rel2) (C : FX p s m #[Value.ref b] meth c RL cL_law 4 g ts (fun q : Nat => s.heap.size ≤ q)) (hO : va_AO "AsInBertha$Shelf" s) (hX : va_X b L xs s s.heap) (hbl : b < s.heap.size) (hbA : ¬ (fun q : Nat => s.heap.size ≤ q) b) (hL : L ≤ 3072) (hk6 : 6 * k + 6 ≤ L) (hRel : Rel σ τ) (hP : va_P g classes (WC ts a σ) H) (hPm : va_P g classes (WM ts a2 τ) H) (hD : va_D (fun q : Nat => s.heap.size ≤ q) (WC ts a σ ++ WM ts a2 τ)) (hS : va_S (fun q : Nat => s.heap.size ≤ q) s.heap H locs) (hcs : cells + 4 ≤ room_1.cells ∧ slots + 267 ≤ room_1.slots) (hl : lv_has ls 4 [(0, .ref b), (1, .ref (a 0)), (2, .ref (a2 0)), (3, .int (nI (6 * k)))]) (kk : ∀ (σ' τ' : St) (a' : Nat → Nat) (H : Heap) (locs : List Loc), Rel2 σ' τ' → keepA a a' → va_P g classes (WC ts a' σ') H → va_P g classes (WM ts a2 τ') H → va_D (fun q : Nat => s.heap.size ≤ q) (WC ts a' σ' ++ WM ts a2 τ') → va_S (fun q : Nat => s.heap.size ≤ q) s.heap H locs → W p l e room_1 s m #[Value.ref b] below meth c H locs (cells + 4) (slots + 267) Q (F0 m 1594 ls [])) : W p l e room_1 s m #[Value.ref b] below meth c H locs cells slots Q (F0 m 1026 ls []) := by
  have hx := C.1
  have hb := C.2.1
  have hown := C.2.2.2.1
  have hts := C.2.2.2.2.1
  refine lv_aload_n hx hb dL_law_1026 rfl (lv_at hl 1 rfl) ?_
  refine lv_aload_n hx hb dL_law_1027 rfl (lv_at hl 0 rfl) ?_
  refine lv_iload_n hx hb dL_law_1028 rfl (lv_at hl 3 rfl) ?_
  refine lv_iconst (v := 1) hx hb dL_law_1029 (by decide) ?_
  refine lv_iadd hx hb dL_law_1030 ?_
  refine va_sld hx hb hX hbl hbA hS (lx_in 1 hk6 hL (by decide)) dL_law_1031 ?_
  refine lx_at 1 hk6 hL (by decide) ?_
  refine lv_aload_n hx hb dL_law_1032 rfl (lv_at hl 0 rfl) ?_
  refine lv_iload_n hx hb dL_law_1033 rfl (lv_at hl 3 rfl) ?_
  refine lv_iconst (v := 2) hx hb dL_law_1034 (by decide) ?_
  refine lv_iadd hx hb dL_law_1035 ?_
  refine va_sld hx hb hX hbl hbA hS (lx_in 2 hk6 hL (by decide)) dL_law_1036 ?_
  refine lx_at 2 hk6 hL (by decide) ?_
  obtain ⟨r, σ', τ', hx1, hm1, hRel2⟩ := hstep σ τ (xs (6 * k + 1)) (xs (6 * k + 2)) hRel
  refine xI [] C hP hPm hD hS (c_X11_call hx1) mv_X11_call q_894 rv_X11 dL_law_1037 ⟨Nat.le_of_ble_eq_true rfl, Nat.le_of_ble_eq_true rfl⟩ ⟨Nat.le_trans (Nat.le_add_right _ _) hcs.1, Nat.le_trans (Nat.le_add_right _ _) hcs.2⟩ rfl rfl (Nat.le_of_ble_eq_true rfl) hl.1 (fun H locs hP hPm hD hS => ?_)
  refine lv_aload_n hx hb dL_law_1040 rfl (lv_at hl 2 rfl) ?_
  refine lv_aload_n hx hb dL_law_1041 rfl (lv_at hl 0 rfl) ?_
  refine lv_iload_n hx hb dL_law_1042 rfl (lv_at hl 3 rfl) ?_
  refine lv_iconst (v := 1) hx hb dL_law_1043 (by decide) ?_
  refine lv_iadd hx hb dL_law_1044 ?_
  refine va_sld hx hb hX hbl hbA hS (lx_in 1 hk6 hL (by decide)) dL_law_1045 ?_
  refine lx_at 1 hk6 hL (by decide) ?_
  refine lv_aload_n hx hb dL_law_1046 rfl (lv_at hl 0 rfl) ?_
  refine lv_iload_n hx hb dL_law_1047 rfl (lv_at hl 3 rfl) ?_
  refine lv_iconst (v := 2) hx hb dL_law_1048 (by decide) ?_
  refine lv_iadd hx hb dL_law_1049 ?_
  refine va_sld hx hb hX hbl hbA hS (lx_in 2 hk6 hL (by decide)) dL_law_1050 ?_
  refine lx_at 2 hk6 hL (by decide) ?_
  refine mI [.int r] C hP hPm hD hS (c_X12_call hm1) mv_X12_call q_1484 rv_X12 dL_law_1051 ⟨Nat.le_of_ble_eq_true rfl, Nat.le_of_ble_eq_true rfl⟩ ⟨Nat.le_trans (Nat.le_add_right _ _) hcs.1, Nat.le_trans (Nat.le_add_right _ _) hcs.2⟩ rfl rfl (Nat.le_of_ble_eq_true rfl) hl.1 (fun H locs hP hPm hD hS => ?_)
  refine lv_icmp_eq (tgt := 1594) hx hb dL_law_1054 (by decide) (fun _ => ?_) (fun z => absurd rfl z)
  refine W.widen (k := cells + 4) (n := slots + 267) (Nat.le_add_right _ _) (Nat.le_add_right _ _) ?_
  exact kk σ' τ' a H locs hRel2 (fun _ _ => rfl) hP hPm hD hS
set_option maxHeartbeats 4000000 in
set_option maxRecDepth 100000 in
theorem law_c26 {p : Program} {l : Launch} {e : Env} {s : State} {m : MethodId} {below : List Frame} {meth : Method} {c : Code} {g : va_G} {ts : ClassId × ClassId × ClassId} {Q : State → Prop} {b L : Nat} {xs : Nat → Int32} {a a2 : Nat → Nat} {σ τ : St} {H : Heap} {locs : List Loc} {cells slots k : Nat} {ls : Array Slot} {Rel Rel2 : St → St → Prop} (hstep : Step_26 Rel Rel2) (C : FX p s m #[Value.ref b] meth c RL cL_law 4 g ts (fun q : Nat => s.heap.size ≤ q)) (hO : va_AO "AsInBertha$Shelf" s) (hX : va_X b L xs s s.heap) (hbl : b < s.heap.size) (hbA : ¬ (fun q : Nat => s.heap.size ≤ q) b) (hL : L ≤ 3072) (hk6 : 6 * k + 6 ≤ L) (hRel : Rel σ τ) (hP : va_P g classes (WC ts a σ) H) (hPm : va_P g classes (WM ts a2 τ) H) (hD : va_D (fun q : Nat => s.heap.size ≤ q) (WC ts a σ ++ WM ts a2 τ)) (hS : va_S (fun q : Nat => s.heap.size ≤ q) s.heap H locs) (hcs : cells + 4 ≤ room_1.cells ∧ slots + 267 ≤ room_1.slots) (hl : lv_has ls 4 [(0, .ref b), (1, .ref (a 0)), (2, .ref (a2 0)), (3, .int (nI (6 * k)))]) (kk : ∀ (σ' τ' : St) (a' : Nat → Nat) (H : Heap) (locs : List Loc), Rel2 σ' τ' → keepA a a' → va_P g classes (WC ts a' σ') H → va_P g classes (WM ts a2 τ') H → va_D (fun q : Nat => s.heap.size ≤ q) (WC ts a' σ' ++ WM ts a2 τ') → va_S (fun q : Nat => s.heap.size ≤ q) s.heap H locs → W p l e room_1 s m #[Value.ref b] below meth c H locs (cells + 4) (slots + 267) Q (F0 m 1594 ls [])) : W p l e room_1 s m #[Value.ref b] below meth c H locs cells slots Q (F0 m 1059 ls []) := by
  have hx := C.1
  have hb := C.2.1
  have hown := C.2.2.2.1
  have hts := C.2.2.2.2.1
  refine lv_aload_n hx hb dL_law_1059 rfl (lv_at hl 1 rfl) ?_
  refine lv_aload_n hx hb dL_law_1060 rfl (lv_at hl 0 rfl) ?_
  refine lv_iload_n hx hb dL_law_1061 rfl (lv_at hl 3 rfl) ?_
  refine lv_iconst (v := 1) hx hb dL_law_1062 (by decide) ?_
  refine lv_iadd hx hb dL_law_1063 ?_
  refine va_sld hx hb hX hbl hbA hS (lx_in 1 hk6 hL (by decide)) dL_law_1064 ?_
  refine lx_at 1 hk6 hL (by decide) ?_
  refine lv_aload_n hx hb dL_law_1065 rfl (lv_at hl 0 rfl) ?_
  refine lv_iload_n hx hb dL_law_1066 rfl (lv_at hl 3 rfl) ?_
  refine lv_iconst (v := 2) hx hb dL_law_1067 (by decide) ?_
  refine lv_iadd hx hb dL_law_1068 ?_
  refine va_sld hx hb hX hbl hbA hS (lx_in 2 hk6 hL (by decide)) dL_law_1069 ?_
  refine lx_at 2 hk6 hL (by decide) ?_
  obtain ⟨r, σ', τ', hx1, hm1, hRel2⟩ := hstep σ τ (xs (6 * k + 1)) (xs (6 * k + 2)) hRel
  refine xI [] C hP hPm hD hS (c_X11_say hx1) mv_X11_say q_903 rv_X11 dL_law_1070 ⟨Nat.le_of_ble_eq_true rfl, Nat.le_of_ble_eq_true rfl⟩ ⟨Nat.le_trans (Nat.le_add_right _ _) hcs.1, Nat.le_trans (Nat.le_add_right _ _) hcs.2⟩ rfl rfl (Nat.le_of_ble_eq_true rfl) hl.1 (fun H locs hP hPm hD hS => ?_)
  refine lv_aload_n hx hb dL_law_1073 rfl (lv_at hl 2 rfl) ?_
  refine lv_aload_n hx hb dL_law_1074 rfl (lv_at hl 0 rfl) ?_
  refine lv_iload_n hx hb dL_law_1075 rfl (lv_at hl 3 rfl) ?_
  refine lv_iconst (v := 1) hx hb dL_law_1076 (by decide) ?_
  refine lv_iadd hx hb dL_law_1077 ?_
  refine va_sld hx hb hX hbl hbA hS (lx_in 1 hk6 hL (by decide)) dL_law_1078 ?_
  refine lx_at 1 hk6 hL (by decide) ?_
  refine lv_aload_n hx hb dL_law_1079 rfl (lv_at hl 0 rfl) ?_
  refine lv_iload_n hx hb dL_law_1080 rfl (lv_at hl 3 rfl) ?_
  refine lv_iconst (v := 2) hx hb dL_law_1081 (by decide) ?_
  refine lv_iadd hx hb dL_law_1082 ?_
  refine va_sld hx hb hX hbl hbA hS (lx_in 2 hk6 hL (by decide)) dL_law_1083 ?_
  refine lx_at 2 hk6 hL (by decide) ?_
  refine mI [.int r] C hP hPm hD hS (c_X12_say hm1) mv_X12_say q_1488 rv_X12 dL_law_1084 ⟨Nat.le_of_ble_eq_true rfl, Nat.le_of_ble_eq_true rfl⟩ ⟨Nat.le_trans (Nat.le_add_right _ _) hcs.1, Nat.le_trans (Nat.le_add_right _ _) hcs.2⟩ rfl rfl (Nat.le_of_ble_eq_true rfl) hl.1 (fun H locs hP hPm hD hS => ?_)
  refine lv_icmp_eq (tgt := 1594) hx hb dL_law_1087 (by decide) (fun _ => ?_) (fun z => absurd rfl z)
  refine W.widen (k := cells + 4) (n := slots + 267) (Nat.le_add_right _ _) (Nat.le_add_right _ _) ?_
  exact kk σ' τ' a H locs hRel2 (fun _ _ => rfl) hP hPm hD hS
set_option maxHeartbeats 4000000 in
set_option maxRecDepth 100000 in
theorem law_c27 {p : Program} {l : Launch} {e : Env} {s : State} {m : MethodId} {below : List Frame} {meth : Method} {c : Code} {g : va_G} {ts : ClassId × ClassId × ClassId} {Q : State → Prop} {b L : Nat} {xs : Nat → Int32} {a a2 : Nat → Nat} {σ τ : St} {H : Heap} {locs : List Loc} {cells slots k : Nat} {ls : Array Slot} {Rel Rel2 : St → St → Prop} (hstep : Step_27 Rel Rel2) (C : FX p s m #[Value.ref b] meth c RL cL_law 4 g ts (fun q : Nat => s.heap.size ≤ q)) (hO : va_AO "AsInBertha$Shelf" s) (hX : va_X b L xs s s.heap) (hbl : b < s.heap.size) (hbA : ¬ (fun q : Nat => s.heap.size ≤ q) b) (hL : L ≤ 3072) (hk6 : 6 * k + 6 ≤ L) (hRel : Rel σ τ) (hP : va_P g classes (WC ts a σ) H) (hPm : va_P g classes (WM ts a2 τ) H) (hD : va_D (fun q : Nat => s.heap.size ≤ q) (WC ts a σ ++ WM ts a2 τ)) (hS : va_S (fun q : Nat => s.heap.size ≤ q) s.heap H locs) (hcs : cells + 4 ≤ room_1.cells ∧ slots + 267 ≤ room_1.slots) (hl : lv_has ls 4 [(0, .ref b), (1, .ref (a 0)), (2, .ref (a2 0)), (3, .int (nI (6 * k)))]) (kk : ∀ (σ' τ' : St) (a' : Nat → Nat) (H : Heap) (locs : List Loc), Rel2 σ' τ' → keepA a a' → va_P g classes (WC ts a' σ') H → va_P g classes (WM ts a2 τ') H → va_D (fun q : Nat => s.heap.size ≤ q) (WC ts a' σ' ++ WM ts a2 τ') → va_S (fun q : Nat => s.heap.size ≤ q) s.heap H locs → W p l e room_1 s m #[Value.ref b] below meth c H locs (cells + 4) (slots + 267) Q (F0 m 1594 ls [])) : W p l e room_1 s m #[Value.ref b] below meth c H locs cells slots Q (F0 m 1092 ls []) := by
  have hx := C.1
  have hb := C.2.1
  have hown := C.2.2.2.1
  have hts := C.2.2.2.2.1
  refine lv_aload_n hx hb dL_law_1092 rfl (lv_at hl 1 rfl) ?_
  refine lv_aload_n hx hb dL_law_1093 rfl (lv_at hl 0 rfl) ?_
  refine lv_iload_n hx hb dL_law_1094 rfl (lv_at hl 3 rfl) ?_
  refine lv_iconst (v := 1) hx hb dL_law_1095 (by decide) ?_
  refine lv_iadd hx hb dL_law_1096 ?_
  refine va_sld hx hb hX hbl hbA hS (lx_in 1 hk6 hL (by decide)) dL_law_1097 ?_
  refine lx_at 1 hk6 hL (by decide) ?_
  obtain ⟨r, σ', τ', hx1, hm1, hRel2⟩ := hstep σ τ (xs (6 * k + 1)) hRel
  refine xI [] C hP hPm hD hS (c_X11_noted hx1) mv_X11_noted q_923 rv_X11 dL_law_1098 ⟨Nat.le_of_ble_eq_true rfl, Nat.le_of_ble_eq_true rfl⟩ ⟨Nat.le_trans (Nat.le_add_right _ _) hcs.1, Nat.le_trans (Nat.le_add_right _ _) hcs.2⟩ rfl rfl (Nat.le_of_ble_eq_true rfl) hl.1 (fun H locs hP hPm hD hS => ?_)
  refine lv_aload_n hx hb dL_law_1101 rfl (lv_at hl 2 rfl) ?_
  refine lv_aload_n hx hb dL_law_1102 rfl (lv_at hl 0 rfl) ?_
  refine lv_iload_n hx hb dL_law_1103 rfl (lv_at hl 3 rfl) ?_
  refine lv_iconst (v := 1) hx hb dL_law_1104 (by decide) ?_
  refine lv_iadd hx hb dL_law_1105 ?_
  refine va_sld hx hb hX hbl hbA hS (lx_in 1 hk6 hL (by decide)) dL_law_1106 ?_
  refine lx_at 1 hk6 hL (by decide) ?_
  refine mI [.int r] C hP hPm hD hS (c_X12_noted hm1) mv_X12_noted q_1492 rv_X12 dL_law_1107 ⟨Nat.le_of_ble_eq_true rfl, Nat.le_of_ble_eq_true rfl⟩ ⟨Nat.le_trans (Nat.le_add_right _ _) hcs.1, Nat.le_trans (Nat.le_add_right _ _) hcs.2⟩ rfl rfl (Nat.le_of_ble_eq_true rfl) hl.1 (fun H locs hP hPm hD hS => ?_)
  refine lv_icmp_eq (tgt := 1594) hx hb dL_law_1110 (by decide) (fun _ => ?_) (fun z => absurd rfl z)
  refine W.widen (k := cells + 4) (n := slots + 267) (Nat.le_add_right _ _) (Nat.le_add_right _ _) ?_
  exact kk σ' τ' a H locs hRel2 (fun _ _ => rfl) hP hPm hD hS
set_option maxHeartbeats 4000000 in
set_option maxRecDepth 100000 in
theorem law_c28 {p : Program} {l : Launch} {e : Env} {s : State} {m : MethodId} {below : List Frame} {meth : Method} {c : Code} {g : va_G} {ts : ClassId × ClassId × ClassId} {Q : State → Prop} {b L : Nat} {xs : Nat → Int32} {a a2 : Nat → Nat} {σ τ : St} {H : Heap} {locs : List Loc} {cells slots k : Nat} {ls : Array Slot} {Rel Rel2 : St → St → Prop} (hstep : Step_28 Rel Rel2) (C : FX p s m #[Value.ref b] meth c RL cL_law 4 g ts (fun q : Nat => s.heap.size ≤ q)) (hO : va_AO "AsInBertha$Shelf" s) (hX : va_X b L xs s s.heap) (hbl : b < s.heap.size) (hbA : ¬ (fun q : Nat => s.heap.size ≤ q) b) (hL : L ≤ 3072) (hk6 : 6 * k + 6 ≤ L) (hRel : Rel σ τ) (hP : va_P g classes (WC ts a σ) H) (hPm : va_P g classes (WM ts a2 τ) H) (hD : va_D (fun q : Nat => s.heap.size ≤ q) (WC ts a σ ++ WM ts a2 τ)) (hS : va_S (fun q : Nat => s.heap.size ≤ q) s.heap H locs) (hcs : cells + 4 ≤ room_1.cells ∧ slots + 267 ≤ room_1.slots) (hl : lv_has ls 4 [(0, .ref b), (1, .ref (a 0)), (2, .ref (a2 0)), (3, .int (nI (6 * k)))]) (kk : ∀ (σ' τ' : St) (a' : Nat → Nat) (H : Heap) (locs : List Loc), Rel2 σ' τ' → keepA a a' → va_P g classes (WC ts a' σ') H → va_P g classes (WM ts a2 τ') H → va_D (fun q : Nat => s.heap.size ≤ q) (WC ts a' σ' ++ WM ts a2 τ') → va_S (fun q : Nat => s.heap.size ≤ q) s.heap H locs → W p l e room_1 s m #[Value.ref b] below meth c H locs (cells + 4) (slots + 267) Q (F0 m 1594 ls [])) : W p l e room_1 s m #[Value.ref b] below meth c H locs cells slots Q (F0 m 1115 ls []) := by
  have hx := C.1
  have hb := C.2.1
  have hown := C.2.2.2.1
  have hts := C.2.2.2.2.1
  refine lv_aload_n hx hb dL_law_1115 rfl (lv_at hl 1 rfl) ?_
  obtain ⟨r, σ', τ', hx1, hm1, hRel2⟩ := hstep σ τ  hRel
  refine xI [] C hP hPm hD hS (c_X11_hang hx1) mv_X11_hang q_927 rv_X11 dL_law_1116 ⟨Nat.le_of_ble_eq_true rfl, Nat.le_of_ble_eq_true rfl⟩ ⟨Nat.le_trans (Nat.le_add_right _ _) hcs.1, Nat.le_trans (Nat.le_add_right _ _) hcs.2⟩ rfl rfl (Nat.le_of_ble_eq_true rfl) hl.1 (fun H locs hP hPm hD hS => ?_)
  refine lv_aload_n hx hb dL_law_1119 rfl (lv_at hl 2 rfl) ?_
  refine mI [.int r] C hP hPm hD hS (c_X12_hang hm1) mv_X12_hang q_1496 rv_X12 dL_law_1120 ⟨Nat.le_of_ble_eq_true rfl, Nat.le_of_ble_eq_true rfl⟩ ⟨Nat.le_trans (Nat.le_add_right _ _) hcs.1, Nat.le_trans (Nat.le_add_right _ _) hcs.2⟩ rfl rfl (Nat.le_of_ble_eq_true rfl) hl.1 (fun H locs hP hPm hD hS => ?_)
  refine lv_icmp_eq (tgt := 1594) hx hb dL_law_1123 (by decide) (fun _ => ?_) (fun z => absurd rfl z)
  refine W.widen (k := cells + 4) (n := slots + 267) (Nat.le_add_right _ _) (Nat.le_add_right _ _) ?_
  exact kk σ' τ' a H locs hRel2 (fun _ _ => rfl) hP hPm hD hS
set_option maxHeartbeats 4000000 in
set_option maxRecDepth 100000 in
theorem law_c29 {p : Program} {l : Launch} {e : Env} {s : State} {m : MethodId} {below : List Frame} {meth : Method} {c : Code} {g : va_G} {ts : ClassId × ClassId × ClassId} {Q : State → Prop} {b L : Nat} {xs : Nat → Int32} {a a2 : Nat → Nat} {σ τ : St} {H : Heap} {locs : List Loc} {cells slots k : Nat} {ls : Array Slot} {Rel Rel2 : St → St → Prop} (hstep : Step_29 Rel Rel2) (C : FX p s m #[Value.ref b] meth c RL cL_law 4 g ts (fun q : Nat => s.heap.size ≤ q)) (hO : va_AO "AsInBertha$Shelf" s) (hX : va_X b L xs s s.heap) (hbl : b < s.heap.size) (hbA : ¬ (fun q : Nat => s.heap.size ≤ q) b) (hL : L ≤ 3072) (hk6 : 6 * k + 6 ≤ L) (hRel : Rel σ τ) (hP : va_P g classes (WC ts a σ) H) (hPm : va_P g classes (WM ts a2 τ) H) (hD : va_D (fun q : Nat => s.heap.size ≤ q) (WC ts a σ ++ WM ts a2 τ)) (hS : va_S (fun q : Nat => s.heap.size ≤ q) s.heap H locs) (hcs : cells + 4 ≤ room_1.cells ∧ slots + 267 ≤ room_1.slots) (hl : lv_has ls 4 [(0, .ref b), (1, .ref (a 0)), (2, .ref (a2 0)), (3, .int (nI (6 * k)))]) (kk : ∀ (σ' τ' : St) (a' : Nat → Nat) (H : Heap) (locs : List Loc), Rel2 σ' τ' → keepA a a' → va_P g classes (WC ts a' σ') H → va_P g classes (WM ts a2 τ') H → va_D (fun q : Nat => s.heap.size ≤ q) (WC ts a' σ' ++ WM ts a2 τ') → va_S (fun q : Nat => s.heap.size ≤ q) s.heap H locs → W p l e room_1 s m #[Value.ref b] below meth c H locs (cells + 4) (slots + 267) Q (F0 m 1594 ls [])) : W p l e room_1 s m #[Value.ref b] below meth c H locs cells slots Q (F0 m 1128 ls []) := by
  have hx := C.1
  have hb := C.2.1
  have hown := C.2.2.2.1
  have hts := C.2.2.2.2.1
  refine lv_aload_n hx hb dL_law_1128 rfl (lv_at hl 1 rfl) ?_
  refine lv_aload_n hx hb dL_law_1129 rfl (lv_at hl 0 rfl) ?_
  refine lv_iload_n hx hb dL_law_1130 rfl (lv_at hl 3 rfl) ?_
  refine lv_iconst (v := 1) hx hb dL_law_1131 (by decide) ?_
  refine lv_iadd hx hb dL_law_1132 ?_
  refine va_sld hx hb hX hbl hbA hS (lx_in 1 hk6 hL (by decide)) dL_law_1133 ?_
  refine lx_at 1 hk6 hL (by decide) ?_
  obtain ⟨r, σ', τ', hx1, hm1, hRel2⟩ := hstep σ τ (xs (6 * k + 1)) hRel
  refine xI [] C hP hPm hD hS (c_X11_led hx1) mv_X11_led q_944 rv_X11 dL_law_1134 ⟨Nat.le_of_ble_eq_true rfl, Nat.le_of_ble_eq_true rfl⟩ ⟨Nat.le_trans (Nat.le_add_right _ _) hcs.1, Nat.le_trans (Nat.le_add_right _ _) hcs.2⟩ rfl rfl (Nat.le_of_ble_eq_true rfl) hl.1 (fun H locs hP hPm hD hS => ?_)
  refine lv_aload_n hx hb dL_law_1137 rfl (lv_at hl 2 rfl) ?_
  refine lv_aload_n hx hb dL_law_1138 rfl (lv_at hl 0 rfl) ?_
  refine lv_iload_n hx hb dL_law_1139 rfl (lv_at hl 3 rfl) ?_
  refine lv_iconst (v := 1) hx hb dL_law_1140 (by decide) ?_
  refine lv_iadd hx hb dL_law_1141 ?_
  refine va_sld hx hb hX hbl hbA hS (lx_in 1 hk6 hL (by decide)) dL_law_1142 ?_
  refine lx_at 1 hk6 hL (by decide) ?_
  refine mI [.int r] C hP hPm hD hS (c_X12_led hm1) mv_X12_led q_1500 rv_X12 dL_law_1143 ⟨Nat.le_of_ble_eq_true rfl, Nat.le_of_ble_eq_true rfl⟩ ⟨Nat.le_trans (Nat.le_add_right _ _) hcs.1, Nat.le_trans (Nat.le_add_right _ _) hcs.2⟩ rfl rfl (Nat.le_of_ble_eq_true rfl) hl.1 (fun H locs hP hPm hD hS => ?_)
  refine lv_icmp_eq (tgt := 1594) hx hb dL_law_1146 (by decide) (fun _ => ?_) (fun z => absurd rfl z)
  refine W.widen (k := cells + 4) (n := slots + 267) (Nat.le_add_right _ _) (Nat.le_add_right _ _) ?_
  exact kk σ' τ' a H locs hRel2 (fun _ _ => rfl) hP hPm hD hS
set_option maxHeartbeats 4000000 in
set_option maxRecDepth 100000 in
theorem law_c30 {p : Program} {l : Launch} {e : Env} {s : State} {m : MethodId} {below : List Frame} {meth : Method} {c : Code} {g : va_G} {ts : ClassId × ClassId × ClassId} {Q : State → Prop} {b L : Nat} {xs : Nat → Int32} {a a2 : Nat → Nat} {σ τ : St} {H : Heap} {locs : List Loc} {cells slots k : Nat} {ls : Array Slot} {Rel Rel2 : St → St → Prop} (hstep : Step_30 Rel Rel2) (C : FX p s m #[Value.ref b] meth c RL cL_law 4 g ts (fun q : Nat => s.heap.size ≤ q)) (hO : va_AO "AsInBertha$Shelf" s) (hX : va_X b L xs s s.heap) (hbl : b < s.heap.size) (hbA : ¬ (fun q : Nat => s.heap.size ≤ q) b) (hL : L ≤ 3072) (hk6 : 6 * k + 6 ≤ L) (hRel : Rel σ τ) (hP : va_P g classes (WC ts a σ) H) (hPm : va_P g classes (WM ts a2 τ) H) (hD : va_D (fun q : Nat => s.heap.size ≤ q) (WC ts a σ ++ WM ts a2 τ)) (hS : va_S (fun q : Nat => s.heap.size ≤ q) s.heap H locs) (hcs : cells + 4 ≤ room_1.cells ∧ slots + 267 ≤ room_1.slots) (hl : lv_has ls 4 [(0, .ref b), (1, .ref (a 0)), (2, .ref (a2 0)), (3, .int (nI (6 * k)))]) (kk : ∀ (σ' τ' : St) (a' : Nat → Nat) (H : Heap) (locs : List Loc), Rel2 σ' τ' → keepA a a' → va_P g classes (WC ts a' σ') H → va_P g classes (WM ts a2 τ') H → va_D (fun q : Nat => s.heap.size ≤ q) (WC ts a' σ' ++ WM ts a2 τ') → va_S (fun q : Nat => s.heap.size ≤ q) s.heap H locs → W p l e room_1 s m #[Value.ref b] below meth c H locs (cells + 4) (slots + 267) Q (F0 m 1594 ls [])) : W p l e room_1 s m #[Value.ref b] below meth c H locs cells slots Q (F0 m 1151 ls []) := by
  have hx := C.1
  have hb := C.2.1
  have hown := C.2.2.2.1
  have hts := C.2.2.2.2.1
  refine lv_aload_n hx hb dL_law_1151 rfl (lv_at hl 1 rfl) ?_
  obtain ⟨r, σ', τ', hx1, hm1, hRel2⟩ := hstep σ τ  hRel
  refine xI [] C hP hPm hD hS (c_X11_image hx1) mv_X11_image q_948 rv_X11 dL_law_1152 ⟨Nat.le_of_ble_eq_true rfl, Nat.le_of_ble_eq_true rfl⟩ ⟨Nat.le_trans (Nat.le_add_right _ _) hcs.1, Nat.le_trans (Nat.le_add_right _ _) hcs.2⟩ rfl rfl (Nat.le_of_ble_eq_true rfl) hl.1 (fun H locs hP hPm hD hS => ?_)
  refine lv_aload_n hx hb dL_law_1155 rfl (lv_at hl 2 rfl) ?_
  refine mI [.int r] C hP hPm hD hS (c_X12_image hm1) mv_X12_image q_1508 rv_X12 dL_law_1156 ⟨Nat.le_of_ble_eq_true rfl, Nat.le_of_ble_eq_true rfl⟩ ⟨Nat.le_trans (Nat.le_add_right _ _) hcs.1, Nat.le_trans (Nat.le_add_right _ _) hcs.2⟩ rfl rfl (Nat.le_of_ble_eq_true rfl) hl.1 (fun H locs hP hPm hD hS => ?_)
  refine lv_icmp_eq (tgt := 1594) hx hb dL_law_1159 (by decide) (fun _ => ?_) (fun z => absurd rfl z)
  refine W.widen (k := cells + 4) (n := slots + 267) (Nat.le_add_right _ _) (Nat.le_add_right _ _) ?_
  exact kk σ' τ' a H locs hRel2 (fun _ _ => rfl) hP hPm hD hS
set_option maxHeartbeats 4000000 in
set_option maxRecDepth 100000 in
theorem law_c31 {p : Program} {l : Launch} {e : Env} {s : State} {m : MethodId} {below : List Frame} {meth : Method} {c : Code} {g : va_G} {ts : ClassId × ClassId × ClassId} {Q : State → Prop} {b L : Nat} {xs : Nat → Int32} {a a2 : Nat → Nat} {σ τ : St} {H : Heap} {locs : List Loc} {cells slots k : Nat} {ls : Array Slot} {Rel Rel2 : St → St → Prop} (hstep : Step_31 Rel Rel2) (C : FX p s m #[Value.ref b] meth c RL cL_law 4 g ts (fun q : Nat => s.heap.size ≤ q)) (hO : va_AO "AsInBertha$Shelf" s) (hX : va_X b L xs s s.heap) (hbl : b < s.heap.size) (hbA : ¬ (fun q : Nat => s.heap.size ≤ q) b) (hL : L ≤ 3072) (hk6 : 6 * k + 6 ≤ L) (hRel : Rel σ τ) (hP : va_P g classes (WC ts a σ) H) (hPm : va_P g classes (WM ts a2 τ) H) (hD : va_D (fun q : Nat => s.heap.size ≤ q) (WC ts a σ ++ WM ts a2 τ)) (hS : va_S (fun q : Nat => s.heap.size ≤ q) s.heap H locs) (hcs : cells + 4 ≤ room_1.cells ∧ slots + 267 ≤ room_1.slots) (hl : lv_has ls 4 [(0, .ref b), (1, .ref (a 0)), (2, .ref (a2 0)), (3, .int (nI (6 * k)))]) (kk : ∀ (σ' τ' : St) (a' : Nat → Nat) (H : Heap) (locs : List Loc), Rel2 σ' τ' → keepA a a' → va_P g classes (WC ts a' σ') H → va_P g classes (WM ts a2 τ') H → va_D (fun q : Nat => s.heap.size ≤ q) (WC ts a' σ' ++ WM ts a2 τ') → va_S (fun q : Nat => s.heap.size ≤ q) s.heap H locs → W p l e room_1 s m #[Value.ref b] below meth c H locs (cells + 4) (slots + 267) Q (F0 m 1594 ls [])) : W p l e room_1 s m #[Value.ref b] below meth c H locs cells slots Q (F0 m 1164 ls []) := by
  have hx := C.1
  have hb := C.2.1
  have hown := C.2.2.2.1
  have hts := C.2.2.2.2.1
  refine lv_aload_n hx hb dL_law_1164 rfl (lv_at hl 1 rfl) ?_
  obtain ⟨r, σ', τ', hx1, hm1, hRel2⟩ := hstep σ τ  hRel
  refine xI [] C hP hPm hD hS (c_X11_back hx1) mv_X11_back q_959 rv_X11 dL_law_1165 ⟨Nat.le_of_ble_eq_true rfl, Nat.le_of_ble_eq_true rfl⟩ ⟨Nat.le_trans (Nat.le_add_right _ _) hcs.1, Nat.le_trans (Nat.le_add_right _ _) hcs.2⟩ rfl rfl (Nat.le_of_ble_eq_true rfl) hl.1 (fun H locs hP hPm hD hS => ?_)
  refine lv_aload_n hx hb dL_law_1168 rfl (lv_at hl 2 rfl) ?_
  refine mI [.int r] C hP hPm hD hS (c_X12_back hm1) mv_X12_back q_1512 rv_X12 dL_law_1169 ⟨Nat.le_of_ble_eq_true rfl, Nat.le_of_ble_eq_true rfl⟩ ⟨Nat.le_trans (Nat.le_add_right _ _) hcs.1, Nat.le_trans (Nat.le_add_right _ _) hcs.2⟩ rfl rfl (Nat.le_of_ble_eq_true rfl) hl.1 (fun H locs hP hPm hD hS => ?_)
  refine lv_icmp_eq (tgt := 1594) hx hb dL_law_1172 (by decide) (fun _ => ?_) (fun z => absurd rfl z)
  refine W.widen (k := cells + 4) (n := slots + 267) (Nat.le_add_right _ _) (Nat.le_add_right _ _) ?_
  exact kk σ' τ' a H locs hRel2 (fun _ _ => rfl) hP hPm hD hS
set_option maxHeartbeats 4000000 in
set_option maxRecDepth 100000 in
theorem law_c32 {p : Program} {l : Launch} {e : Env} {s : State} {m : MethodId} {below : List Frame} {meth : Method} {c : Code} {g : va_G} {ts : ClassId × ClassId × ClassId} {Q : State → Prop} {b L : Nat} {xs : Nat → Int32} {a a2 : Nat → Nat} {σ τ : St} {H : Heap} {locs : List Loc} {cells slots k : Nat} {ls : Array Slot} {Rel Rel2 : St → St → Prop} (hstep : Step_32 Rel Rel2) (C : FX p s m #[Value.ref b] meth c RL cL_law 4 g ts (fun q : Nat => s.heap.size ≤ q)) (hO : va_AO "AsInBertha$Shelf" s) (hX : va_X b L xs s s.heap) (hbl : b < s.heap.size) (hbA : ¬ (fun q : Nat => s.heap.size ≤ q) b) (hL : L ≤ 3072) (hk6 : 6 * k + 6 ≤ L) (hRel : Rel σ τ) (hP : va_P g classes (WC ts a σ) H) (hPm : va_P g classes (WM ts a2 τ) H) (hD : va_D (fun q : Nat => s.heap.size ≤ q) (WC ts a σ ++ WM ts a2 τ)) (hS : va_S (fun q : Nat => s.heap.size ≤ q) s.heap H locs) (hcs : cells + 4 ≤ room_1.cells ∧ slots + 267 ≤ room_1.slots) (hl : lv_has ls 4 [(0, .ref b), (1, .ref (a 0)), (2, .ref (a2 0)), (3, .int (nI (6 * k)))]) (kk : ∀ (σ' τ' : St) (a' : Nat → Nat) (H : Heap) (locs : List Loc), Rel2 σ' τ' → keepA a a' → va_P g classes (WC ts a' σ') H → va_P g classes (WM ts a2 τ') H → va_D (fun q : Nat => s.heap.size ≤ q) (WC ts a' σ' ++ WM ts a2 τ') → va_S (fun q : Nat => s.heap.size ≤ q) s.heap H locs → W p l e room_1 s m #[Value.ref b] below meth c H locs (cells + 4) (slots + 267) Q (F0 m 1594 ls [])) : W p l e room_1 s m #[Value.ref b] below meth c H locs cells slots Q (F0 m 1177 ls []) := by
  have hx := C.1
  have hb := C.2.1
  have hown := C.2.2.2.1
  have hts := C.2.2.2.2.1
  refine lv_aload_n hx hb dL_law_1177 rfl (lv_at hl 1 rfl) ?_
  obtain ⟨r, σ', τ', hx1, hm1, hRel2⟩ := hstep σ τ  hRel
  refine xI [] C hP hPm hD hS (c_X11_undo hx1) mv_X11_undo q_963 rv_X11 dL_law_1178 ⟨Nat.le_of_ble_eq_true rfl, Nat.le_of_ble_eq_true rfl⟩ ⟨Nat.le_trans (Nat.le_add_right _ _) hcs.1, Nat.le_trans (Nat.le_add_right _ _) hcs.2⟩ rfl rfl (Nat.le_of_ble_eq_true rfl) hl.1 (fun H locs hP hPm hD hS => ?_)
  refine lv_aload_n hx hb dL_law_1181 rfl (lv_at hl 2 rfl) ?_
  refine mI [.int r] C hP hPm hD hS (c_X12_undo hm1) mv_X12_undo q_1202 rv_X12 dL_law_1182 ⟨Nat.le_of_ble_eq_true rfl, Nat.le_of_ble_eq_true rfl⟩ ⟨Nat.le_trans (Nat.le_add_right _ _) hcs.1, Nat.le_trans (Nat.le_add_right _ _) hcs.2⟩ rfl rfl (Nat.le_of_ble_eq_true rfl) hl.1 (fun H locs hP hPm hD hS => ?_)
  refine lv_icmp_eq (tgt := 1594) hx hb dL_law_1185 (by decide) (fun _ => ?_) (fun z => absurd rfl z)
  refine W.widen (k := cells + 4) (n := slots + 267) (Nat.le_add_right _ _) (Nat.le_add_right _ _) ?_
  exact kk σ' τ' a H locs hRel2 (fun _ _ => rfl) hP hPm hD hS
set_option maxHeartbeats 4000000 in
set_option maxRecDepth 100000 in
theorem law_c33 {p : Program} {l : Launch} {e : Env} {s : State} {m : MethodId} {below : List Frame} {meth : Method} {c : Code} {g : va_G} {ts : ClassId × ClassId × ClassId} {Q : State → Prop} {b L : Nat} {xs : Nat → Int32} {a a2 : Nat → Nat} {σ τ : St} {H : Heap} {locs : List Loc} {cells slots k : Nat} {ls : Array Slot} {Rel Rel2 : St → St → Prop} (hstep : Step_33 Rel Rel2) (C : FX p s m #[Value.ref b] meth c RL cL_law 4 g ts (fun q : Nat => s.heap.size ≤ q)) (hO : va_AO "AsInBertha$Shelf" s) (hX : va_X b L xs s s.heap) (hbl : b < s.heap.size) (hbA : ¬ (fun q : Nat => s.heap.size ≤ q) b) (hL : L ≤ 3072) (hk6 : 6 * k + 6 ≤ L) (hRel : Rel σ τ) (hP : va_P g classes (WC ts a σ) H) (hPm : va_P g classes (WM ts a2 τ) H) (hD : va_D (fun q : Nat => s.heap.size ≤ q) (WC ts a σ ++ WM ts a2 τ)) (hS : va_S (fun q : Nat => s.heap.size ≤ q) s.heap H locs) (hcs : cells + 4 ≤ room_1.cells ∧ slots + 267 ≤ room_1.slots) (hl : lv_has ls 4 [(0, .ref b), (1, .ref (a 0)), (2, .ref (a2 0)), (3, .int (nI (6 * k)))]) (kk : ∀ (σ' τ' : St) (a' : Nat → Nat) (H : Heap) (locs : List Loc), Rel2 σ' τ' → keepA a a' → va_P g classes (WC ts a' σ') H → va_P g classes (WM ts a2 τ') H → va_D (fun q : Nat => s.heap.size ≤ q) (WC ts a' σ' ++ WM ts a2 τ') → va_S (fun q : Nat => s.heap.size ≤ q) s.heap H locs → W p l e room_1 s m #[Value.ref b] below meth c H locs (cells + 4) (slots + 267) Q (F0 m 1594 ls [])) : W p l e room_1 s m #[Value.ref b] below meth c H locs cells slots Q (F0 m 1190 ls []) := by
  have hx := C.1
  have hb := C.2.1
  have hown := C.2.2.2.1
  have hts := C.2.2.2.2.1
  refine lv_aload_n hx hb dL_law_1190 rfl (lv_at hl 1 rfl) ?_
  obtain ⟨r, σ', τ', hx1, hm1, hRel2⟩ := hstep σ τ  hRel
  refine xI [] C hP hPm hD hS (c_X11_redo hx1) mv_X11_redo q_971 rv_X11 dL_law_1191 ⟨Nat.le_of_ble_eq_true rfl, Nat.le_of_ble_eq_true rfl⟩ ⟨Nat.le_trans (Nat.le_add_right _ _) hcs.1, Nat.le_trans (Nat.le_add_right _ _) hcs.2⟩ rfl rfl (Nat.le_of_ble_eq_true rfl) hl.1 (fun H locs hP hPm hD hS => ?_)
  refine lv_aload_n hx hb dL_law_1194 rfl (lv_at hl 2 rfl) ?_
  refine mI [.int r] C hP hPm hD hS (c_X12_redo hm1) mv_X12_redo q_1206 rv_X12 dL_law_1195 ⟨Nat.le_of_ble_eq_true rfl, Nat.le_of_ble_eq_true rfl⟩ ⟨Nat.le_trans (Nat.le_add_right _ _) hcs.1, Nat.le_trans (Nat.le_add_right _ _) hcs.2⟩ rfl rfl (Nat.le_of_ble_eq_true rfl) hl.1 (fun H locs hP hPm hD hS => ?_)
  refine lv_icmp_eq (tgt := 1594) hx hb dL_law_1198 (by decide) (fun _ => ?_) (fun z => absurd rfl z)
  refine W.widen (k := cells + 4) (n := slots + 267) (Nat.le_add_right _ _) (Nat.le_add_right _ _) ?_
  exact kk σ' τ' a H locs hRel2 (fun _ _ => rfl) hP hPm hD hS
set_option maxHeartbeats 4000000 in
set_option maxRecDepth 100000 in
theorem law_c34 {p : Program} {l : Launch} {e : Env} {s : State} {m : MethodId} {below : List Frame} {meth : Method} {c : Code} {g : va_G} {ts : ClassId × ClassId × ClassId} {Q : State → Prop} {b L : Nat} {xs : Nat → Int32} {a a2 : Nat → Nat} {σ τ : St} {H : Heap} {locs : List Loc} {cells slots k : Nat} {ls : Array Slot} {Rel Rel2 : St → St → Prop} (hstep : Step_34 Rel Rel2) (C : FX p s m #[Value.ref b] meth c RL cL_law 4 g ts (fun q : Nat => s.heap.size ≤ q)) (hO : va_AO "AsInBertha$Shelf" s) (hX : va_X b L xs s s.heap) (hbl : b < s.heap.size) (hbA : ¬ (fun q : Nat => s.heap.size ≤ q) b) (hL : L ≤ 3072) (hk6 : 6 * k + 6 ≤ L) (hRel : Rel σ τ) (hP : va_P g classes (WC ts a σ) H) (hPm : va_P g classes (WM ts a2 τ) H) (hD : va_D (fun q : Nat => s.heap.size ≤ q) (WC ts a σ ++ WM ts a2 τ)) (hS : va_S (fun q : Nat => s.heap.size ≤ q) s.heap H locs) (hcs : cells + 4 ≤ room_1.cells ∧ slots + 267 ≤ room_1.slots) (hl : lv_has ls 4 [(0, .ref b), (1, .ref (a 0)), (2, .ref (a2 0)), (3, .int (nI (6 * k)))]) (kk : ∀ (σ' τ' : St) (a' : Nat → Nat) (H : Heap) (locs : List Loc), Rel2 σ' τ' → keepA a a' → va_P g classes (WC ts a' σ') H → va_P g classes (WM ts a2 τ') H → va_D (fun q : Nat => s.heap.size ≤ q) (WC ts a' σ' ++ WM ts a2 τ') → va_S (fun q : Nat => s.heap.size ≤ q) s.heap H locs → W p l e room_1 s m #[Value.ref b] below meth c H locs (cells + 4) (slots + 267) Q (F0 m 1594 ls [])) : W p l e room_1 s m #[Value.ref b] below meth c H locs cells slots Q (F0 m 1203 ls []) := by
  have hx := C.1
  have hb := C.2.1
  have hown := C.2.2.2.1
  have hts := C.2.2.2.2.1
  refine lv_aload_n hx hb dL_law_1203 rfl (lv_at hl 1 rfl) ?_
  refine lv_aload_n hx hb dL_law_1204 rfl (lv_at hl 0 rfl) ?_
  refine lv_iload_n hx hb dL_law_1205 rfl (lv_at hl 3 rfl) ?_
  refine lv_iconst (v := 1) hx hb dL_law_1206 (by decide) ?_
  refine lv_iadd hx hb dL_law_1207 ?_
  refine va_sld hx hb hX hbl hbA hS (lx_in 1 hk6 hL (by decide)) dL_law_1208 ?_
  refine lx_at 1 hk6 hL (by decide) ?_
  obtain ⟨r, σ', τ', hx1, hm1, hRel2⟩ := hstep σ τ (xs (6 * k + 1)) hRel
  refine xI [] C hP hPm hD hS (c_X11_body hx1) mv_X11_body q_979 rv_X11 dL_law_1209 ⟨Nat.le_of_ble_eq_true rfl, Nat.le_of_ble_eq_true rfl⟩ ⟨Nat.le_trans (Nat.le_add_right _ _) hcs.1, Nat.le_trans (Nat.le_add_right _ _) hcs.2⟩ rfl rfl (Nat.le_of_ble_eq_true rfl) hl.1 (fun H locs hP hPm hD hS => ?_)
  refine lv_aload_n hx hb dL_law_1212 rfl (lv_at hl 2 rfl) ?_
  refine lv_aload_n hx hb dL_law_1213 rfl (lv_at hl 0 rfl) ?_
  refine lv_iload_n hx hb dL_law_1214 rfl (lv_at hl 3 rfl) ?_
  refine lv_iconst (v := 1) hx hb dL_law_1215 (by decide) ?_
  refine lv_iadd hx hb dL_law_1216 ?_
  refine va_sld hx hb hX hbl hbA hS (lx_in 1 hk6 hL (by decide)) dL_law_1217 ?_
  refine lx_at 1 hk6 hL (by decide) ?_
  refine mI [.int r] C hP hPm hD hS (c_X12_body hm1) mv_X12_body q_1516 rv_X12 dL_law_1218 ⟨Nat.le_of_ble_eq_true rfl, Nat.le_of_ble_eq_true rfl⟩ ⟨Nat.le_trans (Nat.le_add_right _ _) hcs.1, Nat.le_trans (Nat.le_add_right _ _) hcs.2⟩ rfl rfl (Nat.le_of_ble_eq_true rfl) hl.1 (fun H locs hP hPm hD hS => ?_)
  refine lv_icmp_eq (tgt := 1594) hx hb dL_law_1221 (by decide) (fun _ => ?_) (fun z => absurd rfl z)
  refine W.widen (k := cells + 4) (n := slots + 267) (Nat.le_add_right _ _) (Nat.le_add_right _ _) ?_
  exact kk σ' τ' a H locs hRel2 (fun _ _ => rfl) hP hPm hD hS
set_option maxHeartbeats 4000000 in
set_option maxRecDepth 100000 in
theorem law_c35 {p : Program} {l : Launch} {e : Env} {s : State} {m : MethodId} {below : List Frame} {meth : Method} {c : Code} {g : va_G} {ts : ClassId × ClassId × ClassId} {Q : State → Prop} {b L : Nat} {xs : Nat → Int32} {a a2 : Nat → Nat} {σ τ : St} {H : Heap} {locs : List Loc} {cells slots k : Nat} {ls : Array Slot} {Rel Rel2 : St → St → Prop} (hstep : Step_35 Rel Rel2) (C : FX p s m #[Value.ref b] meth c RL cL_law 4 g ts (fun q : Nat => s.heap.size ≤ q)) (hO : va_AO "AsInBertha$Shelf" s) (hX : va_X b L xs s s.heap) (hbl : b < s.heap.size) (hbA : ¬ (fun q : Nat => s.heap.size ≤ q) b) (hL : L ≤ 3072) (hk6 : 6 * k + 6 ≤ L) (hRel : Rel σ τ) (hP : va_P g classes (WC ts a σ) H) (hPm : va_P g classes (WM ts a2 τ) H) (hD : va_D (fun q : Nat => s.heap.size ≤ q) (WC ts a σ ++ WM ts a2 τ)) (hS : va_S (fun q : Nat => s.heap.size ≤ q) s.heap H locs) (hcs : cells + 4 ≤ room_1.cells ∧ slots + 267 ≤ room_1.slots) (hl : lv_has ls 4 [(0, .ref b), (1, .ref (a 0)), (2, .ref (a2 0)), (3, .int (nI (6 * k)))]) (kk : ∀ (σ' τ' : St) (a' : Nat → Nat) (H : Heap) (locs : List Loc), Rel2 σ' τ' → keepA a a' → va_P g classes (WC ts a' σ') H → va_P g classes (WM ts a2 τ') H → va_D (fun q : Nat => s.heap.size ≤ q) (WC ts a' σ' ++ WM ts a2 τ') → va_S (fun q : Nat => s.heap.size ≤ q) s.heap H locs → W p l e room_1 s m #[Value.ref b] below meth c H locs (cells + 4) (slots + 267) Q (F0 m 1594 ls [])) : W p l e room_1 s m #[Value.ref b] below meth c H locs cells slots Q (F0 m 1226 ls []) := by
  have hx := C.1
  have hb := C.2.1
  have hown := C.2.2.2.1
  have hts := C.2.2.2.2.1
  refine lv_aload_n hx hb dL_law_1226 rfl (lv_at hl 1 rfl) ?_
  refine lv_aload_n hx hb dL_law_1227 rfl (lv_at hl 0 rfl) ?_
  refine lv_iload_n hx hb dL_law_1228 rfl (lv_at hl 3 rfl) ?_
  refine lv_iconst (v := 1) hx hb dL_law_1229 (by decide) ?_
  refine lv_iadd hx hb dL_law_1230 ?_
  refine va_sld hx hb hX hbl hbA hS (lx_in 1 hk6 hL (by decide)) dL_law_1231 ?_
  refine lx_at 1 hk6 hL (by decide) ?_
  refine lv_aload_n hx hb dL_law_1232 rfl (lv_at hl 0 rfl) ?_
  refine lv_iload_n hx hb dL_law_1233 rfl (lv_at hl 3 rfl) ?_
  refine lv_iconst (v := 2) hx hb dL_law_1234 (by decide) ?_
  refine lv_iadd hx hb dL_law_1235 ?_
  refine va_sld hx hb hX hbl hbA hS (lx_in 2 hk6 hL (by decide)) dL_law_1236 ?_
  refine lx_at 2 hk6 hL (by decide) ?_
  refine lv_aload_n hx hb dL_law_1237 rfl (lv_at hl 0 rfl) ?_
  refine lv_iload_n hx hb dL_law_1238 rfl (lv_at hl 3 rfl) ?_
  refine lv_iconst (v := 3) hx hb dL_law_1239 (by decide) ?_
  refine lv_iadd hx hb dL_law_1240 ?_
  refine va_sld hx hb hX hbl hbA hS (lx_in 3 hk6 hL (by decide)) dL_law_1241 ?_
  refine lx_at 3 hk6 hL (by decide) ?_
  obtain ⟨r, σ', τ', hx1, hm1, hRel2⟩ := hstep σ τ (xs (6 * k + 1)) (xs (6 * k + 2)) (xs (6 * k + 3)) hRel
  refine xI [] C hP hPm hD hS (c_X11_act hx1) mv_X11_act q_987 rv_X11 dL_law_1242 ⟨Nat.le_of_ble_eq_true rfl, Nat.le_of_ble_eq_true rfl⟩ ⟨Nat.le_trans (Nat.le_add_right _ _) hcs.1, Nat.le_trans (Nat.le_add_right _ _) hcs.2⟩ rfl rfl (Nat.le_of_ble_eq_true rfl) hl.1 (fun H locs hP hPm hD hS => ?_)
  refine lv_aload_n hx hb dL_law_1245 rfl (lv_at hl 2 rfl) ?_
  refine lv_aload_n hx hb dL_law_1246 rfl (lv_at hl 0 rfl) ?_
  refine lv_iload_n hx hb dL_law_1247 rfl (lv_at hl 3 rfl) ?_
  refine lv_iconst (v := 1) hx hb dL_law_1248 (by decide) ?_
  refine lv_iadd hx hb dL_law_1249 ?_
  refine va_sld hx hb hX hbl hbA hS (lx_in 1 hk6 hL (by decide)) dL_law_1250 ?_
  refine lx_at 1 hk6 hL (by decide) ?_
  refine lv_aload_n hx hb dL_law_1251 rfl (lv_at hl 0 rfl) ?_
  refine lv_iload_n hx hb dL_law_1252 rfl (lv_at hl 3 rfl) ?_
  refine lv_iconst (v := 2) hx hb dL_law_1253 (by decide) ?_
  refine lv_iadd hx hb dL_law_1254 ?_
  refine va_sld hx hb hX hbl hbA hS (lx_in 2 hk6 hL (by decide)) dL_law_1255 ?_
  refine lx_at 2 hk6 hL (by decide) ?_
  refine lv_aload_n hx hb dL_law_1256 rfl (lv_at hl 0 rfl) ?_
  refine lv_iload_n hx hb dL_law_1257 rfl (lv_at hl 3 rfl) ?_
  refine lv_iconst (v := 3) hx hb dL_law_1258 (by decide) ?_
  refine lv_iadd hx hb dL_law_1259 ?_
  refine va_sld hx hb hX hbl hbA hS (lx_in 3 hk6 hL (by decide)) dL_law_1260 ?_
  refine lx_at 3 hk6 hL (by decide) ?_
  refine mI [.int r] C hP hPm hD hS (c_X12_act hm1) mv_X12_act q_1521 rv_X12 dL_law_1261 ⟨Nat.le_of_ble_eq_true rfl, Nat.le_of_ble_eq_true rfl⟩ ⟨Nat.le_trans (Nat.le_add_right _ _) hcs.1, Nat.le_trans (Nat.le_add_right _ _) hcs.2⟩ rfl rfl (Nat.le_of_ble_eq_true rfl) hl.1 (fun H locs hP hPm hD hS => ?_)
  refine lv_icmp_eq (tgt := 1594) hx hb dL_law_1264 (by decide) (fun _ => ?_) (fun z => absurd rfl z)
  refine W.widen (k := cells + 4) (n := slots + 267) (Nat.le_add_right _ _) (Nat.le_add_right _ _) ?_
  exact kk σ' τ' a H locs hRel2 (fun _ _ => rfl) hP hPm hD hS
set_option maxHeartbeats 4000000 in
set_option maxRecDepth 100000 in
theorem law_c36 {p : Program} {l : Launch} {e : Env} {s : State} {m : MethodId} {below : List Frame} {meth : Method} {c : Code} {g : va_G} {ts : ClassId × ClassId × ClassId} {Q : State → Prop} {b L : Nat} {xs : Nat → Int32} {a a2 : Nat → Nat} {σ τ : St} {H : Heap} {locs : List Loc} {cells slots k : Nat} {ls : Array Slot} {Rel Rel2 : St → St → Prop} (hstep : Step_36 Rel Rel2) (C : FX p s m #[Value.ref b] meth c RL cL_law 4 g ts (fun q : Nat => s.heap.size ≤ q)) (hO : va_AO "AsInBertha$Shelf" s) (hX : va_X b L xs s s.heap) (hbl : b < s.heap.size) (hbA : ¬ (fun q : Nat => s.heap.size ≤ q) b) (hL : L ≤ 3072) (hk6 : 6 * k + 6 ≤ L) (hRel : Rel σ τ) (hP : va_P g classes (WC ts a σ) H) (hPm : va_P g classes (WM ts a2 τ) H) (hD : va_D (fun q : Nat => s.heap.size ≤ q) (WC ts a σ ++ WM ts a2 τ)) (hS : va_S (fun q : Nat => s.heap.size ≤ q) s.heap H locs) (hcs : cells + 4 ≤ room_1.cells ∧ slots + 267 ≤ room_1.slots) (hl : lv_has ls 4 [(0, .ref b), (1, .ref (a 0)), (2, .ref (a2 0)), (3, .int (nI (6 * k)))]) (kk : ∀ (σ' τ' : St) (a' : Nat → Nat) (H : Heap) (locs : List Loc), Rel2 σ' τ' → keepA a a' → va_P g classes (WC ts a' σ') H → va_P g classes (WM ts a2 τ') H → va_D (fun q : Nat => s.heap.size ≤ q) (WC ts a' σ' ++ WM ts a2 τ') → va_S (fun q : Nat => s.heap.size ≤ q) s.heap H locs → W p l e room_1 s m #[Value.ref b] below meth c H locs (cells + 4) (slots + 267) Q (F0 m 1594 ls [])) : W p l e room_1 s m #[Value.ref b] below meth c H locs cells slots Q (F0 m 1269 ls []) := by
  have hx := C.1
  have hb := C.2.1
  have hown := C.2.2.2.1
  have hts := C.2.2.2.2.1
  refine lv_aload_n hx hb dL_law_1269 rfl (lv_at hl 1 rfl) ?_
  refine lv_aload_n hx hb dL_law_1270 rfl (lv_at hl 0 rfl) ?_
  refine lv_iload_n hx hb dL_law_1271 rfl (lv_at hl 3 rfl) ?_
  refine lv_iconst (v := 1) hx hb dL_law_1272 (by decide) ?_
  refine lv_iadd hx hb dL_law_1273 ?_
  refine va_sld hx hb hX hbl hbA hS (lx_in 1 hk6 hL (by decide)) dL_law_1274 ?_
  refine lx_at 1 hk6 hL (by decide) ?_
  obtain ⟨r, σ', τ', hx1, hm1, hRel2⟩ := hstep σ τ (xs (6 * k + 1)) hRel
  refine xI [] C hP hPm hD hS (c_X11_trace hx1) mv_X11_trace q_1008 rv_X11 dL_law_1275 ⟨Nat.le_of_ble_eq_true rfl, Nat.le_of_ble_eq_true rfl⟩ ⟨Nat.le_trans (Nat.le_add_right _ _) hcs.1, Nat.le_trans (Nat.le_add_right _ _) hcs.2⟩ rfl rfl (Nat.le_of_ble_eq_true rfl) hl.1 (fun H locs hP hPm hD hS => ?_)
  refine lv_aload_n hx hb dL_law_1278 rfl (lv_at hl 2 rfl) ?_
  refine lv_aload_n hx hb dL_law_1279 rfl (lv_at hl 0 rfl) ?_
  refine lv_iload_n hx hb dL_law_1280 rfl (lv_at hl 3 rfl) ?_
  refine lv_iconst (v := 1) hx hb dL_law_1281 (by decide) ?_
  refine lv_iadd hx hb dL_law_1282 ?_
  refine va_sld hx hb hX hbl hbA hS (lx_in 1 hk6 hL (by decide)) dL_law_1283 ?_
  refine lx_at 1 hk6 hL (by decide) ?_
  refine mI [.int r] C hP hPm hD hS (c_X12_trace hm1) mv_X12_trace q_1549 rv_X12 dL_law_1284 ⟨Nat.le_of_ble_eq_true rfl, Nat.le_of_ble_eq_true rfl⟩ ⟨Nat.le_trans (Nat.le_add_right _ _) hcs.1, Nat.le_trans (Nat.le_add_right _ _) hcs.2⟩ rfl rfl (Nat.le_of_ble_eq_true rfl) hl.1 (fun H locs hP hPm hD hS => ?_)
  refine lv_icmp_eq (tgt := 1594) hx hb dL_law_1287 (by decide) (fun _ => ?_) (fun z => absurd rfl z)
  refine W.widen (k := cells + 4) (n := slots + 267) (Nat.le_add_right _ _) (Nat.le_add_right _ _) ?_
  exact kk σ' τ' a H locs hRel2 (fun _ _ => rfl) hP hPm hD hS
set_option maxHeartbeats 4000000 in
set_option maxRecDepth 100000 in
theorem law_c37 {p : Program} {l : Launch} {e : Env} {s : State} {m : MethodId} {below : List Frame} {meth : Method} {c : Code} {g : va_G} {ts : ClassId × ClassId × ClassId} {Q : State → Prop} {b L : Nat} {xs : Nat → Int32} {a a2 : Nat → Nat} {σ τ : St} {H : Heap} {locs : List Loc} {cells slots k : Nat} {ls : Array Slot} {Rel Rel2 : St → St → Prop} (hstep : Step_37 Rel Rel2) (C : FX p s m #[Value.ref b] meth c RL cL_law 4 g ts (fun q : Nat => s.heap.size ≤ q)) (hO : va_AO "AsInBertha$Shelf" s) (hX : va_X b L xs s s.heap) (hbl : b < s.heap.size) (hbA : ¬ (fun q : Nat => s.heap.size ≤ q) b) (hL : L ≤ 3072) (hk6 : 6 * k + 6 ≤ L) (hRel : Rel σ τ) (hP : va_P g classes (WC ts a σ) H) (hPm : va_P g classes (WM ts a2 τ) H) (hD : va_D (fun q : Nat => s.heap.size ≤ q) (WC ts a σ ++ WM ts a2 τ)) (hS : va_S (fun q : Nat => s.heap.size ≤ q) s.heap H locs) (hcs : cells + 4 ≤ room_1.cells ∧ slots + 267 ≤ room_1.slots) (hl : lv_has ls 4 [(0, .ref b), (1, .ref (a 0)), (2, .ref (a2 0)), (3, .int (nI (6 * k)))]) (kk : ∀ (σ' τ' : St) (a' : Nat → Nat) (H : Heap) (locs : List Loc), Rel2 σ' τ' → keepA a a' → va_P g classes (WC ts a' σ') H → va_P g classes (WM ts a2 τ') H → va_D (fun q : Nat => s.heap.size ≤ q) (WC ts a' σ' ++ WM ts a2 τ') → va_S (fun q : Nat => s.heap.size ≤ q) s.heap H locs → W p l e room_1 s m #[Value.ref b] below meth c H locs (cells + 4) (slots + 267) Q (F0 m 1594 ls [])) : W p l e room_1 s m #[Value.ref b] below meth c H locs cells slots Q (F0 m 1292 ls []) := by
  have hx := C.1
  have hb := C.2.1
  have hown := C.2.2.2.1
  have hts := C.2.2.2.2.1
  refine lv_aload_n hx hb dL_law_1292 rfl (lv_at hl 1 rfl) ?_
  refine lv_aload_n hx hb dL_law_1293 rfl (lv_at hl 0 rfl) ?_
  refine lv_iload_n hx hb dL_law_1294 rfl (lv_at hl 3 rfl) ?_
  refine lv_iconst (v := 1) hx hb dL_law_1295 (by decide) ?_
  refine lv_iadd hx hb dL_law_1296 ?_
  refine va_sld hx hb hX hbl hbA hS (lx_in 1 hk6 hL (by decide)) dL_law_1297 ?_
  refine lx_at 1 hk6 hL (by decide) ?_
  refine lv_aload_n hx hb dL_law_1298 rfl (lv_at hl 0 rfl) ?_
  refine lv_iload_n hx hb dL_law_1299 rfl (lv_at hl 3 rfl) ?_
  refine lv_iconst (v := 2) hx hb dL_law_1300 (by decide) ?_
  refine lv_iadd hx hb dL_law_1301 ?_
  refine va_sld hx hb hX hbl hbA hS (lx_in 2 hk6 hL (by decide)) dL_law_1302 ?_
  refine lx_at 2 hk6 hL (by decide) ?_
  obtain ⟨r, σ', τ', hx1, hm1, hRel2⟩ := hstep σ τ (xs (6 * k + 1)) (xs (6 * k + 2)) hRel
  refine xI [] C hP hPm hD hS (c_X11_keep hx1) mv_X11_keep q_1012 rv_X11 dL_law_1303 ⟨Nat.le_of_ble_eq_true rfl, Nat.le_of_ble_eq_true rfl⟩ ⟨Nat.le_trans (Nat.le_add_right _ _) hcs.1, Nat.le_trans (Nat.le_add_right _ _) hcs.2⟩ rfl rfl (Nat.le_of_ble_eq_true rfl) hl.1 (fun H locs hP hPm hD hS => ?_)
  refine lv_aload_n hx hb dL_law_1306 rfl (lv_at hl 2 rfl) ?_
  refine lv_aload_n hx hb dL_law_1307 rfl (lv_at hl 0 rfl) ?_
  refine lv_iload_n hx hb dL_law_1308 rfl (lv_at hl 3 rfl) ?_
  refine lv_iconst (v := 1) hx hb dL_law_1309 (by decide) ?_
  refine lv_iadd hx hb dL_law_1310 ?_
  refine va_sld hx hb hX hbl hbA hS (lx_in 1 hk6 hL (by decide)) dL_law_1311 ?_
  refine lx_at 1 hk6 hL (by decide) ?_
  refine lv_aload_n hx hb dL_law_1312 rfl (lv_at hl 0 rfl) ?_
  refine lv_iload_n hx hb dL_law_1313 rfl (lv_at hl 3 rfl) ?_
  refine lv_iconst (v := 2) hx hb dL_law_1314 (by decide) ?_
  refine lv_iadd hx hb dL_law_1315 ?_
  refine va_sld hx hb hX hbl hbA hS (lx_in 2 hk6 hL (by decide)) dL_law_1316 ?_
  refine lx_at 2 hk6 hL (by decide) ?_
  refine mI [.int r] C hP hPm hD hS (c_X12_keep hm1) mv_X12_keep q_1553 rv_X12 dL_law_1317 ⟨Nat.le_of_ble_eq_true rfl, Nat.le_of_ble_eq_true rfl⟩ ⟨Nat.le_trans (Nat.le_add_right _ _) hcs.1, Nat.le_trans (Nat.le_add_right _ _) hcs.2⟩ rfl rfl (Nat.le_of_ble_eq_true rfl) hl.1 (fun H locs hP hPm hD hS => ?_)
  refine lv_icmp_eq (tgt := 1594) hx hb dL_law_1320 (by decide) (fun _ => ?_) (fun z => absurd rfl z)
  refine W.widen (k := cells + 4) (n := slots + 267) (Nat.le_add_right _ _) (Nat.le_add_right _ _) ?_
  exact kk σ' τ' a H locs hRel2 (fun _ _ => rfl) hP hPm hD hS
set_option maxHeartbeats 4000000 in
set_option maxRecDepth 100000 in
theorem law_c38 {p : Program} {l : Launch} {e : Env} {s : State} {m : MethodId} {below : List Frame} {meth : Method} {c : Code} {g : va_G} {ts : ClassId × ClassId × ClassId} {Q : State → Prop} {b L : Nat} {xs : Nat → Int32} {a a2 : Nat → Nat} {σ τ : St} {H : Heap} {locs : List Loc} {cells slots k : Nat} {ls : Array Slot} {Rel Rel2 : St → St → Prop} (hstep : Step_38 Rel Rel2) (C : FX p s m #[Value.ref b] meth c RL cL_law 4 g ts (fun q : Nat => s.heap.size ≤ q)) (hO : va_AO "AsInBertha$Shelf" s) (hX : va_X b L xs s s.heap) (hbl : b < s.heap.size) (hbA : ¬ (fun q : Nat => s.heap.size ≤ q) b) (hL : L ≤ 3072) (hk6 : 6 * k + 6 ≤ L) (hRel : Rel σ τ) (hP : va_P g classes (WC ts a σ) H) (hPm : va_P g classes (WM ts a2 τ) H) (hD : va_D (fun q : Nat => s.heap.size ≤ q) (WC ts a σ ++ WM ts a2 τ)) (hS : va_S (fun q : Nat => s.heap.size ≤ q) s.heap H locs) (hcs : cells + 4 ≤ room_1.cells ∧ slots + 267 ≤ room_1.slots) (hl : lv_has ls 4 [(0, .ref b), (1, .ref (a 0)), (2, .ref (a2 0)), (3, .int (nI (6 * k)))]) (kk : ∀ (σ' τ' : St) (a' : Nat → Nat) (H : Heap) (locs : List Loc), Rel2 σ' τ' → keepA a a' → va_P g classes (WC ts a' σ') H → va_P g classes (WM ts a2 τ') H → va_D (fun q : Nat => s.heap.size ≤ q) (WC ts a' σ' ++ WM ts a2 τ') → va_S (fun q : Nat => s.heap.size ≤ q) s.heap H locs → W p l e room_1 s m #[Value.ref b] below meth c H locs (cells + 4) (slots + 267) Q (F0 m 1594 ls [])) : W p l e room_1 s m #[Value.ref b] below meth c H locs cells slots Q (F0 m 1325 ls []) := by
  have hx := C.1
  have hb := C.2.1
  have hown := C.2.2.2.1
  have hts := C.2.2.2.2.1
  refine lv_aload_n hx hb dL_law_1325 rfl (lv_at hl 1 rfl) ?_
  refine lv_aload_n hx hb dL_law_1326 rfl (lv_at hl 0 rfl) ?_
  refine lv_iload_n hx hb dL_law_1327 rfl (lv_at hl 3 rfl) ?_
  refine lv_iconst (v := 1) hx hb dL_law_1328 (by decide) ?_
  refine lv_iadd hx hb dL_law_1329 ?_
  refine va_sld hx hb hX hbl hbA hS (lx_in 1 hk6 hL (by decide)) dL_law_1330 ?_
  refine lx_at 1 hk6 hL (by decide) ?_
  refine lv_aload_n hx hb dL_law_1331 rfl (lv_at hl 0 rfl) ?_
  refine lv_iload_n hx hb dL_law_1332 rfl (lv_at hl 3 rfl) ?_
  refine lv_iconst (v := 2) hx hb dL_law_1333 (by decide) ?_
  refine lv_iadd hx hb dL_law_1334 ?_
  refine va_sld hx hb hX hbl hbA hS (lx_in 2 hk6 hL (by decide)) dL_law_1335 ?_
  refine lx_at 2 hk6 hL (by decide) ?_
  refine lv_aload_n hx hb dL_law_1336 rfl (lv_at hl 0 rfl) ?_
  refine lv_iload_n hx hb dL_law_1337 rfl (lv_at hl 3 rfl) ?_
  refine lv_iconst (v := 3) hx hb dL_law_1338 (by decide) ?_
  refine lv_iadd hx hb dL_law_1339 ?_
  refine va_sld hx hb hX hbl hbA hS (lx_in 3 hk6 hL (by decide)) dL_law_1340 ?_
  refine lx_at 3 hk6 hL (by decide) ?_
  obtain ⟨r, σ', τ', hx1, hm1, hRel2⟩ := hstep σ τ (xs (6 * k + 1)) (xs (6 * k + 2)) (xs (6 * k + 3)) hRel
  refine xI [] C hP hPm hD hS (c_X11_row hx1) mv_X11_row q_1020 rv_X11 dL_law_1341 ⟨Nat.le_of_ble_eq_true rfl, Nat.le_of_ble_eq_true rfl⟩ ⟨Nat.le_trans (Nat.le_add_right _ _) hcs.1, Nat.le_trans (Nat.le_add_right _ _) hcs.2⟩ rfl rfl (Nat.le_of_ble_eq_true rfl) hl.1 (fun H locs hP hPm hD hS => ?_)
  refine lv_aload_n hx hb dL_law_1344 rfl (lv_at hl 2 rfl) ?_
  refine lv_aload_n hx hb dL_law_1345 rfl (lv_at hl 0 rfl) ?_
  refine lv_iload_n hx hb dL_law_1346 rfl (lv_at hl 3 rfl) ?_
  refine lv_iconst (v := 1) hx hb dL_law_1347 (by decide) ?_
  refine lv_iadd hx hb dL_law_1348 ?_
  refine va_sld hx hb hX hbl hbA hS (lx_in 1 hk6 hL (by decide)) dL_law_1349 ?_
  refine lx_at 1 hk6 hL (by decide) ?_
  refine lv_aload_n hx hb dL_law_1350 rfl (lv_at hl 0 rfl) ?_
  refine lv_iload_n hx hb dL_law_1351 rfl (lv_at hl 3 rfl) ?_
  refine lv_iconst (v := 2) hx hb dL_law_1352 (by decide) ?_
  refine lv_iadd hx hb dL_law_1353 ?_
  refine va_sld hx hb hX hbl hbA hS (lx_in 2 hk6 hL (by decide)) dL_law_1354 ?_
  refine lx_at 2 hk6 hL (by decide) ?_
  refine lv_aload_n hx hb dL_law_1355 rfl (lv_at hl 0 rfl) ?_
  refine lv_iload_n hx hb dL_law_1356 rfl (lv_at hl 3 rfl) ?_
  refine lv_iconst (v := 3) hx hb dL_law_1357 (by decide) ?_
  refine lv_iadd hx hb dL_law_1358 ?_
  refine va_sld hx hb hX hbl hbA hS (lx_in 3 hk6 hL (by decide)) dL_law_1359 ?_
  refine lx_at 3 hk6 hL (by decide) ?_
  refine mI [.int r] C hP hPm hD hS (c_X12_row hm1) mv_X12_row q_1557 rv_X12 dL_law_1360 ⟨Nat.le_of_ble_eq_true rfl, Nat.le_of_ble_eq_true rfl⟩ ⟨Nat.le_trans (Nat.le_add_right _ _) hcs.1, Nat.le_trans (Nat.le_add_right _ _) hcs.2⟩ rfl rfl (Nat.le_of_ble_eq_true rfl) hl.1 (fun H locs hP hPm hD hS => ?_)
  refine lv_icmp_eq (tgt := 1594) hx hb dL_law_1363 (by decide) (fun _ => ?_) (fun z => absurd rfl z)
  refine W.widen (k := cells + 4) (n := slots + 267) (Nat.le_add_right _ _) (Nat.le_add_right _ _) ?_
  exact kk σ' τ' a H locs hRel2 (fun _ _ => rfl) hP hPm hD hS
set_option maxHeartbeats 4000000 in
set_option maxRecDepth 100000 in
theorem law_c39 {p : Program} {l : Launch} {e : Env} {s : State} {m : MethodId} {below : List Frame} {meth : Method} {c : Code} {g : va_G} {ts : ClassId × ClassId × ClassId} {Q : State → Prop} {b L : Nat} {xs : Nat → Int32} {a a2 : Nat → Nat} {σ τ : St} {H : Heap} {locs : List Loc} {cells slots k : Nat} {ls : Array Slot} {Rel Rel2 : St → St → Prop} (hstep : Step_39 Rel Rel2) (C : FX p s m #[Value.ref b] meth c RL cL_law 4 g ts (fun q : Nat => s.heap.size ≤ q)) (hO : va_AO "AsInBertha$Shelf" s) (hX : va_X b L xs s s.heap) (hbl : b < s.heap.size) (hbA : ¬ (fun q : Nat => s.heap.size ≤ q) b) (hL : L ≤ 3072) (hk6 : 6 * k + 6 ≤ L) (hRel : Rel σ τ) (hP : va_P g classes (WC ts a σ) H) (hPm : va_P g classes (WM ts a2 τ) H) (hD : va_D (fun q : Nat => s.heap.size ≤ q) (WC ts a σ ++ WM ts a2 τ)) (hS : va_S (fun q : Nat => s.heap.size ≤ q) s.heap H locs) (hcs : cells + 4 ≤ room_1.cells ∧ slots + 267 ≤ room_1.slots) (hl : lv_has ls 4 [(0, .ref b), (1, .ref (a 0)), (2, .ref (a2 0)), (3, .int (nI (6 * k)))]) (kk : ∀ (σ' τ' : St) (a' : Nat → Nat) (H : Heap) (locs : List Loc), Rel2 σ' τ' → keepA a a' → va_P g classes (WC ts a' σ') H → va_P g classes (WM ts a2 τ') H → va_D (fun q : Nat => s.heap.size ≤ q) (WC ts a' σ' ++ WM ts a2 τ') → va_S (fun q : Nat => s.heap.size ≤ q) s.heap H locs → W p l e room_1 s m #[Value.ref b] below meth c H locs (cells + 4) (slots + 267) Q (F0 m 1594 ls [])) : W p l e room_1 s m #[Value.ref b] below meth c H locs cells slots Q (F0 m 1368 ls []) := by
  have hx := C.1
  have hb := C.2.1
  have hown := C.2.2.2.1
  have hts := C.2.2.2.2.1
  refine lv_aload_n hx hb dL_law_1368 rfl (lv_at hl 1 rfl) ?_
  refine lv_aload_n hx hb dL_law_1369 rfl (lv_at hl 0 rfl) ?_
  refine lv_iload_n hx hb dL_law_1370 rfl (lv_at hl 3 rfl) ?_
  refine lv_iconst (v := 1) hx hb dL_law_1371 (by decide) ?_
  refine lv_iadd hx hb dL_law_1372 ?_
  refine va_sld hx hb hX hbl hbA hS (lx_in 1 hk6 hL (by decide)) dL_law_1373 ?_
  refine lx_at 1 hk6 hL (by decide) ?_
  refine lv_aload_n hx hb dL_law_1374 rfl (lv_at hl 0 rfl) ?_
  refine lv_iload_n hx hb dL_law_1375 rfl (lv_at hl 3 rfl) ?_
  refine lv_iconst (v := 2) hx hb dL_law_1376 (by decide) ?_
  refine lv_iadd hx hb dL_law_1377 ?_
  refine va_sld hx hb hX hbl hbA hS (lx_in 2 hk6 hL (by decide)) dL_law_1378 ?_
  refine lx_at 2 hk6 hL (by decide) ?_
  refine lv_aload_n hx hb dL_law_1379 rfl (lv_at hl 0 rfl) ?_
  refine lv_iload_n hx hb dL_law_1380 rfl (lv_at hl 3 rfl) ?_
  refine lv_iconst (v := 3) hx hb dL_law_1381 (by decide) ?_
  refine lv_iadd hx hb dL_law_1382 ?_
  refine va_sld hx hb hX hbl hbA hS (lx_in 3 hk6 hL (by decide)) dL_law_1383 ?_
  refine lx_at 3 hk6 hL (by decide) ?_
  refine lv_i2l (v := (xs (6 * k + 3)).toInt64) hx hb dL_law_1384 rfl ?_
  refine lv_bipush (v := 32) hx hb dL_law_1385 (by decide) ?_
  refine lv_lshl (v := ((xs (6 * k + 3)).toInt64) <<< ((32 : Int32).toInt64 &&& 63)) hx hb dL_law_1387 rfl ?_
  refine lv_aload_n hx hb dL_law_1388 rfl (lv_at hl 0 rfl) ?_
  refine lv_iload_n hx hb dL_law_1389 rfl (lv_at hl 3 rfl) ?_
  refine lv_iconst (v := 4) hx hb dL_law_1390 (by decide) ?_
  refine lv_iadd hx hb dL_law_1391 ?_
  refine va_sld hx hb hX hbl hbA hS (lx_in 4 hk6 hL (by decide)) dL_law_1392 ?_
  refine lx_at 4 hk6 hL (by decide) ?_
  refine lv_i2l (v := (xs (6 * k + 4)).toInt64) hx hb dL_law_1393 rfl ?_
  refine lv_ldc2 hx hb hown (hts _ q_1596) dL_law_1394 ?_
  refine lv_land hx hb dL_law_1397 ?_
  refine lv_lor hx hb dL_law_1398 ?_
  obtain ⟨r, σ', τ', hx1, hm1, hRel2⟩ := hstep σ τ (xs (6 * k + 1)) (xs (6 * k + 2)) ((((xs (6 * k + 3)).toInt64) <<< ((32 : Int32).toInt64 &&& 63)) ||| (((xs (6 * k + 4)).toInt64) &&& ((4294967295 : Int64)))) hRel
  refine xI [] C hP hPm hD hS (c_X11_put hx1) mv_X11_put q_1029 rv_X11 dL_law_1399 ⟨Nat.le_of_ble_eq_true rfl, Nat.le_of_ble_eq_true rfl⟩ ⟨Nat.le_trans (Nat.le_add_right _ _) hcs.1, Nat.le_trans (Nat.le_add_right _ _) hcs.2⟩ rfl rfl (Nat.le_of_ble_eq_true rfl) hl.1 (fun H locs hP hPm hD hS => ?_)
  refine lv_aload_n hx hb dL_law_1402 rfl (lv_at hl 2 rfl) ?_
  refine lv_aload_n hx hb dL_law_1403 rfl (lv_at hl 0 rfl) ?_
  refine lv_iload_n hx hb dL_law_1404 rfl (lv_at hl 3 rfl) ?_
  refine lv_iconst (v := 1) hx hb dL_law_1405 (by decide) ?_
  refine lv_iadd hx hb dL_law_1406 ?_
  refine va_sld hx hb hX hbl hbA hS (lx_in 1 hk6 hL (by decide)) dL_law_1407 ?_
  refine lx_at 1 hk6 hL (by decide) ?_
  refine lv_aload_n hx hb dL_law_1408 rfl (lv_at hl 0 rfl) ?_
  refine lv_iload_n hx hb dL_law_1409 rfl (lv_at hl 3 rfl) ?_
  refine lv_iconst (v := 2) hx hb dL_law_1410 (by decide) ?_
  refine lv_iadd hx hb dL_law_1411 ?_
  refine va_sld hx hb hX hbl hbA hS (lx_in 2 hk6 hL (by decide)) dL_law_1412 ?_
  refine lx_at 2 hk6 hL (by decide) ?_
  refine lv_aload_n hx hb dL_law_1413 rfl (lv_at hl 0 rfl) ?_
  refine lv_iload_n hx hb dL_law_1414 rfl (lv_at hl 3 rfl) ?_
  refine lv_iconst (v := 3) hx hb dL_law_1415 (by decide) ?_
  refine lv_iadd hx hb dL_law_1416 ?_
  refine va_sld hx hb hX hbl hbA hS (lx_in 3 hk6 hL (by decide)) dL_law_1417 ?_
  refine lx_at 3 hk6 hL (by decide) ?_
  refine lv_i2l (v := (xs (6 * k + 3)).toInt64) hx hb dL_law_1418 rfl ?_
  refine lv_bipush (v := 32) hx hb dL_law_1419 (by decide) ?_
  refine lv_lshl (v := ((xs (6 * k + 3)).toInt64) <<< ((32 : Int32).toInt64 &&& 63)) hx hb dL_law_1421 rfl ?_
  refine lv_aload_n hx hb dL_law_1422 rfl (lv_at hl 0 rfl) ?_
  refine lv_iload_n hx hb dL_law_1423 rfl (lv_at hl 3 rfl) ?_
  refine lv_iconst (v := 4) hx hb dL_law_1424 (by decide) ?_
  refine lv_iadd hx hb dL_law_1425 ?_
  refine va_sld hx hb hX hbl hbA hS (lx_in 4 hk6 hL (by decide)) dL_law_1426 ?_
  refine lx_at 4 hk6 hL (by decide) ?_
  refine lv_i2l (v := (xs (6 * k + 4)).toInt64) hx hb dL_law_1427 rfl ?_
  refine lv_ldc2 hx hb hown (hts _ q_1596) dL_law_1428 ?_
  refine lv_land hx hb dL_law_1431 ?_
  refine lv_lor hx hb dL_law_1432 ?_
  refine mI [.int r] C hP hPm hD hS (c_X12_put hm1) mv_X12_put q_1562 rv_X12 dL_law_1433 ⟨Nat.le_of_ble_eq_true rfl, Nat.le_of_ble_eq_true rfl⟩ ⟨Nat.le_trans (Nat.le_add_right _ _) hcs.1, Nat.le_trans (Nat.le_add_right _ _) hcs.2⟩ rfl rfl (Nat.le_of_ble_eq_true rfl) hl.1 (fun H locs hP hPm hD hS => ?_)
  refine lv_icmp_eq (tgt := 1594) hx hb dL_law_1436 (by decide) (fun _ => ?_) (fun z => absurd rfl z)
  refine W.widen (k := cells + 4) (n := slots + 267) (Nat.le_add_right _ _) (Nat.le_add_right _ _) ?_
  exact kk σ' τ' a H locs hRel2 (fun _ _ => rfl) hP hPm hD hS
set_option maxHeartbeats 4000000 in
set_option maxRecDepth 100000 in
theorem law_c40 {p : Program} {l : Launch} {e : Env} {s : State} {m : MethodId} {below : List Frame} {meth : Method} {c : Code} {g : va_G} {ts : ClassId × ClassId × ClassId} {Q : State → Prop} {b L : Nat} {xs : Nat → Int32} {a a2 : Nat → Nat} {σ τ : St} {H : Heap} {locs : List Loc} {cells slots k : Nat} {ls : Array Slot} {Rel Rel2 : St → St → Prop} (hstep : Step_40 Rel Rel2) (C : FX p s m #[Value.ref b] meth c RL cL_law 4 g ts (fun q : Nat => s.heap.size ≤ q)) (hO : va_AO "AsInBertha$Shelf" s) (hX : va_X b L xs s s.heap) (hbl : b < s.heap.size) (hbA : ¬ (fun q : Nat => s.heap.size ≤ q) b) (hL : L ≤ 3072) (hk6 : 6 * k + 6 ≤ L) (hRel : Rel σ τ) (hP : va_P g classes (WC ts a σ) H) (hPm : va_P g classes (WM ts a2 τ) H) (hD : va_D (fun q : Nat => s.heap.size ≤ q) (WC ts a σ ++ WM ts a2 τ)) (hS : va_S (fun q : Nat => s.heap.size ≤ q) s.heap H locs) (hcs : cells + 4 ≤ room_1.cells ∧ slots + 267 ≤ room_1.slots) (hl : lv_has ls 4 [(0, .ref b), (1, .ref (a 0)), (2, .ref (a2 0)), (3, .int (nI (6 * k)))]) (kk : ∀ (σ' τ' : St) (a' : Nat → Nat) (H : Heap) (locs : List Loc), Rel2 σ' τ' → keepA a a' → va_P g classes (WC ts a' σ') H → va_P g classes (WM ts a2 τ') H → va_D (fun q : Nat => s.heap.size ≤ q) (WC ts a' σ' ++ WM ts a2 τ') → va_S (fun q : Nat => s.heap.size ≤ q) s.heap H locs → W p l e room_1 s m #[Value.ref b] below meth c H locs (cells + 4) (slots + 267) Q (F0 m 1594 ls [])) : W p l e room_1 s m #[Value.ref b] below meth c H locs cells slots Q (F0 m 1441 ls []) := by
  have hx := C.1
  have hb := C.2.1
  have hown := C.2.2.2.1
  have hts := C.2.2.2.2.1
  refine lv_aload_n hx hb dL_law_1441 rfl (lv_at hl 1 rfl) ?_
  refine lv_aload_n hx hb dL_law_1442 rfl (lv_at hl 0 rfl) ?_
  refine lv_iload_n hx hb dL_law_1443 rfl (lv_at hl 3 rfl) ?_
  refine lv_iconst (v := 1) hx hb dL_law_1444 (by decide) ?_
  refine lv_iadd hx hb dL_law_1445 ?_
  refine va_sld hx hb hX hbl hbA hS (lx_in 1 hk6 hL (by decide)) dL_law_1446 ?_
  refine lx_at 1 hk6 hL (by decide) ?_
  refine lv_aload_n hx hb dL_law_1447 rfl (lv_at hl 0 rfl) ?_
  refine lv_iload_n hx hb dL_law_1448 rfl (lv_at hl 3 rfl) ?_
  refine lv_iconst (v := 2) hx hb dL_law_1449 (by decide) ?_
  refine lv_iadd hx hb dL_law_1450 ?_
  refine va_sld hx hb hX hbl hbA hS (lx_in 2 hk6 hL (by decide)) dL_law_1451 ?_
  refine lx_at 2 hk6 hL (by decide) ?_
  obtain ⟨r, σ', τ', hx1, hm1, hRel2⟩ := hstep σ τ (xs (6 * k + 1)) (xs (6 * k + 2)) hRel
  refine xL [] C hP hPm hD hS (c_X11_element hx1) mv_X11_element q_1046 rv_X11 dL_law_1452 ⟨Nat.le_of_ble_eq_true rfl, Nat.le_of_ble_eq_true rfl⟩ ⟨Nat.le_trans (Nat.le_add_right _ _) hcs.1, Nat.le_trans (Nat.le_add_right _ _) hcs.2⟩ rfl rfl (Nat.le_of_ble_eq_true rfl) hl.1 (fun H locs hP hPm hD hS => ?_)
  refine lv_aload_n hx hb dL_law_1455 rfl (lv_at hl 2 rfl) ?_
  refine lv_aload_n hx hb dL_law_1456 rfl (lv_at hl 0 rfl) ?_
  refine lv_iload_n hx hb dL_law_1457 rfl (lv_at hl 3 rfl) ?_
  refine lv_iconst (v := 1) hx hb dL_law_1458 (by decide) ?_
  refine lv_iadd hx hb dL_law_1459 ?_
  refine va_sld hx hb hX hbl hbA hS (lx_in 1 hk6 hL (by decide)) dL_law_1460 ?_
  refine lx_at 1 hk6 hL (by decide) ?_
  refine lv_aload_n hx hb dL_law_1461 rfl (lv_at hl 0 rfl) ?_
  refine lv_iload_n hx hb dL_law_1462 rfl (lv_at hl 3 rfl) ?_
  refine lv_iconst (v := 2) hx hb dL_law_1463 (by decide) ?_
  refine lv_iadd hx hb dL_law_1464 ?_
  refine va_sld hx hb hX hbl hbA hS (lx_in 2 hk6 hL (by decide)) dL_law_1465 ?_
  refine lx_at 2 hk6 hL (by decide) ?_
  refine mL [.long r] C hP hPm hD hS (c_X12_element hm1) mv_X12_element q_1573 rv_X12 dL_law_1466 ⟨Nat.le_of_ble_eq_true rfl, Nat.le_of_ble_eq_true rfl⟩ ⟨Nat.le_trans (Nat.le_add_right _ _) hcs.1, Nat.le_trans (Nat.le_add_right _ _) hcs.2⟩ rfl rfl (Nat.le_of_ble_eq_true rfl) hl.1 (fun H locs hP hPm hD hS => ?_)
  refine lb_eq (tgt := 1594) hx hb dL_law_1469 dL_law_1470 (by decide) (fun _ => ?_) (fun z => absurd rfl z)
  refine W.widen (k := cells + 4) (n := slots + 267) (Nat.le_add_right _ _) (Nat.le_add_right _ _) ?_
  exact kk σ' τ' a H locs hRel2 (fun _ _ => rfl) hP hPm hD hS
set_option maxHeartbeats 4000000 in
set_option maxRecDepth 100000 in
theorem law_c41 {p : Program} {l : Launch} {e : Env} {s : State} {m : MethodId} {below : List Frame} {meth : Method} {c : Code} {g : va_G} {ts : ClassId × ClassId × ClassId} {Q : State → Prop} {b L : Nat} {xs : Nat → Int32} {a a2 : Nat → Nat} {σ τ : St} {H : Heap} {locs : List Loc} {cells slots k : Nat} {ls : Array Slot} {Rel Rel2 : St → St → Prop} (hstep : Step_41 Rel Rel2) (C : FX p s m #[Value.ref b] meth c RL cL_law 4 g ts (fun q : Nat => s.heap.size ≤ q)) (hO : va_AO "AsInBertha$Shelf" s) (hX : va_X b L xs s s.heap) (hbl : b < s.heap.size) (hbA : ¬ (fun q : Nat => s.heap.size ≤ q) b) (hL : L ≤ 3072) (hk6 : 6 * k + 6 ≤ L) (hRel : Rel σ τ) (hP : va_P g classes (WC ts a σ) H) (hPm : va_P g classes (WM ts a2 τ) H) (hD : va_D (fun q : Nat => s.heap.size ≤ q) (WC ts a σ ++ WM ts a2 τ)) (hS : va_S (fun q : Nat => s.heap.size ≤ q) s.heap H locs) (hcs : cells + 4 ≤ room_1.cells ∧ slots + 267 ≤ room_1.slots) (hl : lv_has ls 4 [(0, .ref b), (1, .ref (a 0)), (2, .ref (a2 0)), (3, .int (nI (6 * k)))]) (kk : ∀ (σ' τ' : St) (a' : Nat → Nat) (H : Heap) (locs : List Loc), Rel2 σ' τ' → keepA a a' → va_P g classes (WC ts a' σ') H → va_P g classes (WM ts a2 τ') H → va_D (fun q : Nat => s.heap.size ≤ q) (WC ts a' σ' ++ WM ts a2 τ') → va_S (fun q : Nat => s.heap.size ≤ q) s.heap H locs → W p l e room_1 s m #[Value.ref b] below meth c H locs (cells + 4) (slots + 267) Q (F0 m 1594 ls [])) : W p l e room_1 s m #[Value.ref b] below meth c H locs cells slots Q (F0 m 1475 ls []) := by
  have hx := C.1
  have hb := C.2.1
  have hown := C.2.2.2.1
  have hts := C.2.2.2.2.1
  refine lv_aload_n hx hb dL_law_1475 rfl (lv_at hl 1 rfl) ?_
  refine lv_aload_n hx hb dL_law_1476 rfl (lv_at hl 0 rfl) ?_
  refine lv_iload_n hx hb dL_law_1477 rfl (lv_at hl 3 rfl) ?_
  refine lv_iconst (v := 1) hx hb dL_law_1478 (by decide) ?_
  refine lv_iadd hx hb dL_law_1479 ?_
  refine va_sld hx hb hX hbl hbA hS (lx_in 1 hk6 hL (by decide)) dL_law_1480 ?_
  refine lx_at 1 hk6 hL (by decide) ?_
  refine lv_aload_n hx hb dL_law_1481 rfl (lv_at hl 0 rfl) ?_
  refine lv_iload_n hx hb dL_law_1482 rfl (lv_at hl 3 rfl) ?_
  refine lv_iconst (v := 2) hx hb dL_law_1483 (by decide) ?_
  refine lv_iadd hx hb dL_law_1484 ?_
  refine va_sld hx hb hX hbl hbA hS (lx_in 2 hk6 hL (by decide)) dL_law_1485 ?_
  refine lx_at 2 hk6 hL (by decide) ?_
  refine lv_aload_n hx hb dL_law_1486 rfl (lv_at hl 0 rfl) ?_
  refine lv_iload_n hx hb dL_law_1487 rfl (lv_at hl 3 rfl) ?_
  refine lv_iconst (v := 3) hx hb dL_law_1488 (by decide) ?_
  refine lv_iadd hx hb dL_law_1489 ?_
  refine va_sld hx hb hX hbl hbA hS (lx_in 3 hk6 hL (by decide)) dL_law_1490 ?_
  refine lx_at 3 hk6 hL (by decide) ?_
  refine lv_aload_n hx hb dL_law_1491 rfl (lv_at hl 0 rfl) ?_
  refine lv_iload_n hx hb dL_law_1492 rfl (lv_at hl 3 rfl) ?_
  refine lv_iconst (v := 4) hx hb dL_law_1493 (by decide) ?_
  refine lv_iadd hx hb dL_law_1494 ?_
  refine va_sld hx hb hX hbl hbA hS (lx_in 4 hk6 hL (by decide)) dL_law_1495 ?_
  refine lx_at 4 hk6 hL (by decide) ?_
  refine lv_aload_n hx hb dL_law_1496 rfl (lv_at hl 0 rfl) ?_
  refine lv_iload_n hx hb dL_law_1497 rfl (lv_at hl 3 rfl) ?_
  refine lv_iconst (v := 5) hx hb dL_law_1498 (by decide) ?_
  refine lv_iadd hx hb dL_law_1499 ?_
  refine va_sld hx hb hX hbl hbA hS (lx_in 5 hk6 hL (by decide)) dL_law_1500 ?_
  refine lx_at 5 hk6 hL (by decide) ?_
  obtain ⟨r, σ', τ', hx1, hm1, hRel2⟩ := hstep σ τ (xs (6 * k + 1)) (xs (6 * k + 2)) (xs (6 * k + 3)) (xs (6 * k + 4)) (xs (6 * k + 5)) hRel
  refine xI [] C hP hPm hD hS (c_X11_shift hx1) mv_X11_shift q_1050 rv_X11 dL_law_1501 ⟨Nat.le_of_ble_eq_true rfl, Nat.le_of_ble_eq_true rfl⟩ ⟨Nat.le_trans (Nat.le_add_right _ _) hcs.1, Nat.le_trans (Nat.le_add_right _ _) hcs.2⟩ rfl rfl (Nat.le_of_ble_eq_true rfl) hl.1 (fun H locs hP hPm hD hS => ?_)
  refine lv_aload_n hx hb dL_law_1504 rfl (lv_at hl 2 rfl) ?_
  refine lv_aload_n hx hb dL_law_1505 rfl (lv_at hl 0 rfl) ?_
  refine lv_iload_n hx hb dL_law_1506 rfl (lv_at hl 3 rfl) ?_
  refine lv_iconst (v := 1) hx hb dL_law_1507 (by decide) ?_
  refine lv_iadd hx hb dL_law_1508 ?_
  refine va_sld hx hb hX hbl hbA hS (lx_in 1 hk6 hL (by decide)) dL_law_1509 ?_
  refine lx_at 1 hk6 hL (by decide) ?_
  refine lv_aload_n hx hb dL_law_1510 rfl (lv_at hl 0 rfl) ?_
  refine lv_iload_n hx hb dL_law_1511 rfl (lv_at hl 3 rfl) ?_
  refine lv_iconst (v := 2) hx hb dL_law_1512 (by decide) ?_
  refine lv_iadd hx hb dL_law_1513 ?_
  refine va_sld hx hb hX hbl hbA hS (lx_in 2 hk6 hL (by decide)) dL_law_1514 ?_
  refine lx_at 2 hk6 hL (by decide) ?_
  refine lv_aload_n hx hb dL_law_1515 rfl (lv_at hl 0 rfl) ?_
  refine lv_iload_n hx hb dL_law_1516 rfl (lv_at hl 3 rfl) ?_
  refine lv_iconst (v := 3) hx hb dL_law_1517 (by decide) ?_
  refine lv_iadd hx hb dL_law_1518 ?_
  refine va_sld hx hb hX hbl hbA hS (lx_in 3 hk6 hL (by decide)) dL_law_1519 ?_
  refine lx_at 3 hk6 hL (by decide) ?_
  refine lv_aload_n hx hb dL_law_1520 rfl (lv_at hl 0 rfl) ?_
  refine lv_iload_n hx hb dL_law_1521 rfl (lv_at hl 3 rfl) ?_
  refine lv_iconst (v := 4) hx hb dL_law_1522 (by decide) ?_
  refine lv_iadd hx hb dL_law_1523 ?_
  refine va_sld hx hb hX hbl hbA hS (lx_in 4 hk6 hL (by decide)) dL_law_1524 ?_
  refine lx_at 4 hk6 hL (by decide) ?_
  refine lv_aload_n hx hb dL_law_1525 rfl (lv_at hl 0 rfl) ?_
  refine lv_iload_n hx hb dL_law_1526 rfl (lv_at hl 3 rfl) ?_
  refine lv_iconst (v := 5) hx hb dL_law_1527 (by decide) ?_
  refine lv_iadd hx hb dL_law_1528 ?_
  refine va_sld hx hb hX hbl hbA hS (lx_in 5 hk6 hL (by decide)) dL_law_1529 ?_
  refine lx_at 5 hk6 hL (by decide) ?_
  refine mI [.int r] C hP hPm hD hS (c_X12_shift hm1) mv_X12_shift q_1577 rv_X12 dL_law_1530 ⟨Nat.le_of_ble_eq_true rfl, Nat.le_of_ble_eq_true rfl⟩ ⟨Nat.le_trans (Nat.le_add_right _ _) hcs.1, Nat.le_trans (Nat.le_add_right _ _) hcs.2⟩ rfl rfl (Nat.le_of_ble_eq_true rfl) hl.1 (fun H locs hP hPm hD hS => ?_)
  refine lv_icmp_eq (tgt := 1594) hx hb dL_law_1533 (by decide) (fun _ => ?_) (fun z => absurd rfl z)
  refine W.widen (k := cells + 4) (n := slots + 267) (Nat.le_add_right _ _) (Nat.le_add_right _ _) ?_
  exact kk σ' τ' a H locs hRel2 (fun _ _ => rfl) hP hPm hD hS
set_option maxHeartbeats 4000000 in
set_option maxRecDepth 100000 in
theorem law_c42 {p : Program} {l : Launch} {e : Env} {s : State} {m : MethodId} {below : List Frame} {meth : Method} {c : Code} {g : va_G} {ts : ClassId × ClassId × ClassId} {Q : State → Prop} {b L : Nat} {xs : Nat → Int32} {a a2 : Nat → Nat} {σ τ : St} {H : Heap} {locs : List Loc} {cells slots k : Nat} {ls : Array Slot} {Rel Rel2 : St → St → Prop} (hstep : Step_42 Rel Rel2) (C : FX p s m #[Value.ref b] meth c RL cL_law 4 g ts (fun q : Nat => s.heap.size ≤ q)) (hO : va_AO "AsInBertha$Shelf" s) (hX : va_X b L xs s s.heap) (hbl : b < s.heap.size) (hbA : ¬ (fun q : Nat => s.heap.size ≤ q) b) (hL : L ≤ 3072) (hk6 : 6 * k + 6 ≤ L) (hRel : Rel σ τ) (hP : va_P g classes (WC ts a σ) H) (hPm : va_P g classes (WM ts a2 τ) H) (hD : va_D (fun q : Nat => s.heap.size ≤ q) (WC ts a σ ++ WM ts a2 τ)) (hS : va_S (fun q : Nat => s.heap.size ≤ q) s.heap H locs) (hcs : cells + 4 ≤ room_1.cells ∧ slots + 267 ≤ room_1.slots) (hl : lv_has ls 4 [(0, .ref b), (1, .ref (a 0)), (2, .ref (a2 0)), (3, .int (nI (6 * k)))]) (kk : ∀ (σ' τ' : St) (a' : Nat → Nat) (H : Heap) (locs : List Loc), Rel2 σ' τ' → keepA a a' → va_P g classes (WC ts a' σ') H → va_P g classes (WM ts a2 τ') H → va_D (fun q : Nat => s.heap.size ≤ q) (WC ts a' σ' ++ WM ts a2 τ') → va_S (fun q : Nat => s.heap.size ≤ q) s.heap H locs → W p l e room_1 s m #[Value.ref b] below meth c H locs (cells + 4) (slots + 267) Q (F0 m 1594 ls [])) : W p l e room_1 s m #[Value.ref b] below meth c H locs cells slots Q (F0 m 1538 ls []) := by
  have hx := C.1
  have hb := C.2.1
  have hown := C.2.2.2.1
  have hts := C.2.2.2.2.1
  refine lv_aload_n hx hb dL_law_1538 rfl (lv_at hl 1 rfl) ?_
  refine lv_aload_n hx hb dL_law_1539 rfl (lv_at hl 0 rfl) ?_
  refine lv_iload_n hx hb dL_law_1540 rfl (lv_at hl 3 rfl) ?_
  refine lv_iconst (v := 1) hx hb dL_law_1541 (by decide) ?_
  refine lv_iadd hx hb dL_law_1542 ?_
  refine va_sld hx hb hX hbl hbA hS (lx_in 1 hk6 hL (by decide)) dL_law_1543 ?_
  refine lx_at 1 hk6 hL (by decide) ?_
  refine lv_aload_n hx hb dL_law_1544 rfl (lv_at hl 0 rfl) ?_
  refine lv_iload_n hx hb dL_law_1545 rfl (lv_at hl 3 rfl) ?_
  refine lv_iconst (v := 2) hx hb dL_law_1546 (by decide) ?_
  refine lv_iadd hx hb dL_law_1547 ?_
  refine va_sld hx hb hX hbl hbA hS (lx_in 2 hk6 hL (by decide)) dL_law_1548 ?_
  refine lx_at 2 hk6 hL (by decide) ?_
  obtain ⟨r, σ', τ', hx1, hm1, hRel2⟩ := hstep σ τ (xs (6 * k + 1)) (xs (6 * k + 2)) hRel
  refine xI [] C hP hPm hD hS (c_X11_taken hx1) mv_X11_taken q_1055 rv_X11 dL_law_1549 ⟨Nat.le_of_ble_eq_true rfl, Nat.le_of_ble_eq_true rfl⟩ ⟨Nat.le_trans (Nat.le_add_right _ _) hcs.1, Nat.le_trans (Nat.le_add_right _ _) hcs.2⟩ rfl rfl (Nat.le_of_ble_eq_true rfl) hl.1 (fun H locs hP hPm hD hS => ?_)
  refine lv_aload_n hx hb dL_law_1552 rfl (lv_at hl 2 rfl) ?_
  refine lv_aload_n hx hb dL_law_1553 rfl (lv_at hl 0 rfl) ?_
  refine lv_iload_n hx hb dL_law_1554 rfl (lv_at hl 3 rfl) ?_
  refine lv_iconst (v := 1) hx hb dL_law_1555 (by decide) ?_
  refine lv_iadd hx hb dL_law_1556 ?_
  refine va_sld hx hb hX hbl hbA hS (lx_in 1 hk6 hL (by decide)) dL_law_1557 ?_
  refine lx_at 1 hk6 hL (by decide) ?_
  refine lv_aload_n hx hb dL_law_1558 rfl (lv_at hl 0 rfl) ?_
  refine lv_iload_n hx hb dL_law_1559 rfl (lv_at hl 3 rfl) ?_
  refine lv_iconst (v := 2) hx hb dL_law_1560 (by decide) ?_
  refine lv_iadd hx hb dL_law_1561 ?_
  refine va_sld hx hb hX hbl hbA hS (lx_in 2 hk6 hL (by decide)) dL_law_1562 ?_
  refine lx_at 2 hk6 hL (by decide) ?_
  refine mI [.int r] C hP hPm hD hS (c_X12_taken hm1) mv_X12_taken q_1581 rv_X12 dL_law_1563 ⟨Nat.le_of_ble_eq_true rfl, Nat.le_of_ble_eq_true rfl⟩ ⟨Nat.le_trans (Nat.le_add_right _ _) hcs.1, Nat.le_trans (Nat.le_add_right _ _) hcs.2⟩ rfl rfl (Nat.le_of_ble_eq_true rfl) hl.1 (fun H locs hP hPm hD hS => ?_)
  refine lv_icmp_eq (tgt := 1594) hx hb dL_law_1566 (by decide) (fun _ => ?_) (fun z => absurd rfl z)
  refine W.widen (k := cells + 4) (n := slots + 267) (Nat.le_add_right _ _) (Nat.le_add_right _ _) ?_
  exact kk σ' τ' a H locs hRel2 (fun _ _ => rfl) hP hPm hD hS
set_option maxHeartbeats 4000000 in
set_option maxRecDepth 100000 in
theorem law_c43 {p : Program} {l : Launch} {e : Env} {s : State} {m : MethodId} {below : List Frame} {meth : Method} {c : Code} {g : va_G} {ts : ClassId × ClassId × ClassId} {Q : State → Prop} {b L : Nat} {xs : Nat → Int32} {a a2 : Nat → Nat} {σ τ : St} {H : Heap} {locs : List Loc} {cells slots k : Nat} {ls : Array Slot} {Rel Rel2 : St → St → Prop} (hstep : Step_43 Rel Rel2) (C : FX p s m #[Value.ref b] meth c RL cL_law 4 g ts (fun q : Nat => s.heap.size ≤ q)) (hO : va_AO "AsInBertha$Shelf" s) (hX : va_X b L xs s s.heap) (hbl : b < s.heap.size) (hbA : ¬ (fun q : Nat => s.heap.size ≤ q) b) (hL : L ≤ 3072) (hk6 : 6 * k + 6 ≤ L) (hRel : Rel σ τ) (hP : va_P g classes (WC ts a σ) H) (hPm : va_P g classes (WM ts a2 τ) H) (hD : va_D (fun q : Nat => s.heap.size ≤ q) (WC ts a σ ++ WM ts a2 τ)) (hS : va_S (fun q : Nat => s.heap.size ≤ q) s.heap H locs) (hcs : cells + 4 ≤ room_1.cells ∧ slots + 267 ≤ room_1.slots) (hl : lv_has ls 4 [(0, .ref b), (1, .ref (a 0)), (2, .ref (a2 0)), (3, .int (nI (6 * k)))]) (kk : ∀ (σ' τ' : St) (a' : Nat → Nat) (H : Heap) (locs : List Loc), Rel2 σ' τ' → keepA a a' → va_P g classes (WC ts a' σ') H → va_P g classes (WM ts a2 τ') H → va_D (fun q : Nat => s.heap.size ≤ q) (WC ts a' σ' ++ WM ts a2 τ') → va_S (fun q : Nat => s.heap.size ≤ q) s.heap H locs → W p l e room_1 s m #[Value.ref b] below meth c H locs (cells + 4) (slots + 267) Q (F0 m 1594 ls [])) : W p l e room_1 s m #[Value.ref b] below meth c H locs cells slots Q (F0 m 1571 ls []) := by
  have hx := C.1
  have hb := C.2.1
  have hown := C.2.2.2.1
  have hts := C.2.2.2.2.1
  refine lv_aload_n hx hb dL_law_1571 rfl (lv_at hl 1 rfl) ?_
  refine lv_aload_n hx hb dL_law_1572 rfl (lv_at hl 0 rfl) ?_
  refine lv_iload_n hx hb dL_law_1573 rfl (lv_at hl 3 rfl) ?_
  refine lv_iconst (v := 1) hx hb dL_law_1574 (by decide) ?_
  refine lv_iadd hx hb dL_law_1575 ?_
  refine va_sld hx hb hX hbl hbA hS (lx_in 1 hk6 hL (by decide)) dL_law_1576 ?_
  refine lx_at 1 hk6 hL (by decide) ?_
  obtain ⟨r, σ', τ', hx1, hm1, hRel2⟩ := hstep σ τ (xs (6 * k + 1)) hRel
  refine xI [] C hP hPm hD hS (c_X11_count hx1) mv_X11_count q_1062 rv_X11 dL_law_1577 ⟨Nat.le_of_ble_eq_true rfl, Nat.le_of_ble_eq_true rfl⟩ ⟨Nat.le_trans (Nat.le_add_right _ _) hcs.1, Nat.le_trans (Nat.le_add_right _ _) hcs.2⟩ rfl rfl (Nat.le_of_ble_eq_true rfl) hl.1 (fun H locs hP hPm hD hS => ?_)
  refine lv_aload_n hx hb dL_law_1580 rfl (lv_at hl 2 rfl) ?_
  refine lv_aload_n hx hb dL_law_1581 rfl (lv_at hl 0 rfl) ?_
  refine lv_iload_n hx hb dL_law_1582 rfl (lv_at hl 3 rfl) ?_
  refine lv_iconst (v := 1) hx hb dL_law_1583 (by decide) ?_
  refine lv_iadd hx hb dL_law_1584 ?_
  refine va_sld hx hb hX hbl hbA hS (lx_in 1 hk6 hL (by decide)) dL_law_1585 ?_
  refine lx_at 1 hk6 hL (by decide) ?_
  refine mI [.int r] C hP hPm hD hS (c_X12_count hm1) mv_X12_count q_1592 rv_X12 dL_law_1586 ⟨Nat.le_of_ble_eq_true rfl, Nat.le_of_ble_eq_true rfl⟩ ⟨Nat.le_trans (Nat.le_add_right _ _) hcs.1, Nat.le_trans (Nat.le_add_right _ _) hcs.2⟩ rfl rfl (Nat.le_of_ble_eq_true rfl) hl.1 (fun H locs hP hPm hD hS => ?_)
  refine lv_icmp_eq (tgt := 1594) hx hb dL_law_1589 (by decide) (fun _ => ?_) (fun z => absurd rfl z)
  refine W.widen (k := cells + 4) (n := slots + 267) (Nat.le_add_right _ _) (Nat.le_add_right _ _) ?_
  exact kk σ' τ' a H locs hRel2 (fun _ _ => rfl) hP hPm hD hS
