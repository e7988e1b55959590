theorem mv_X1_begin : MV yX1_begin cX1_begin 3 none 2 := ⟨q_899, q_900, q_68, q_901, by decide +kernel, by decide +kernel, by decide +kernel⟩
theorem mv_X1_speak : MV yX1_speak cX1_speak 6 (some .int) 4 := ⟨q_912, q_913, q_68, q_914, by decide +kernel, by decide +kernel, by decide +kernel⟩
theorem mv_X1_write : MV yX1_write cX1_write 4 none 3 := ⟨q_920, q_921, q_68, q_922, by decide +kernel, by decide +kernel, by decide +kernel⟩
theorem mv_X1_missing : MV yX1_missing cX1_missing 4 (some .int) 1 := ⟨q_932, q_933, q_68, q_934, by decide +kernel, by decide +kernel, by decide +kernel⟩
theorem mv_X1_wrong : MV yX1_wrong cX1_wrong 4 (some .int) 1 := ⟨q_936, q_937, q_68, q_938, by decide +kernel, by decide +kernel, by decide +kernel⟩
theorem mv_X1_end : MV yX1_end cX1_end 2 none 1 := ⟨q_941, q_942, q_68, q_943, by decide +kernel, by decide +kernel, by decide +kernel⟩
theorem mv_X1_become : MV yX1_become cX1_become 2 none 1 := ⟨q_953, q_954, q_68, q_955, by decide +kernel, by decide +kernel, by decide +kernel⟩
theorem dX1_begin_0 : decode cX1_begin 0 = .ok (.aload_n 0, 1) := by decide +kernel
theorem dX1_begin_1 : decode cX1_begin 1 = .ok (.iload_n 1, 1) := by decide +kernel
theorem dX1_begin_2 : decode cX1_begin 2 = .ok (.putfield 18, 3) := by decide +kernel
theorem dX1_begin_5 : decode cX1_begin 5 = .ok (.aload_n 0, 1) := by decide +kernel
theorem dX1_begin_6 : decode cX1_begin 6 = .ok (.iload_n 2, 1) := by decide +kernel
theorem dX1_begin_7 : decode cX1_begin 7 = .ok (.putfield 22, 3) := by decide +kernel
theorem dX1_begin_10 : decode cX1_begin 10 = .ok (.aload_n 0, 1) := by decide +kernel
theorem dX1_begin_11 : decode cX1_begin 11 = .ok (.getfield 9, 3) := by decide +kernel
theorem dX1_begin_14 : decode cX1_begin 14 = .ok (.iconst 0, 1) := by decide +kernel
theorem dX1_begin_15 : decode cX1_begin 15 = .ok (.invokestatic 25, 3) := by decide +kernel
theorem dX1_begin_18 : decode cX1_begin 18 = .ok (.return_, 1) := by decide +kernel
def f_X1_begin (σ : St) (i0 : Nat) (p1 : Int32) (p2 : Int32) : Option St := bnd (sA (sI (sI σ 52 i0 p1) 57 i0 p2) 50 i0 (fillA ((sI (sI σ 52 i0 p1) 57 i0 p2).2.2.1 50 i0) 6 (0 : Int32))) (fun σ1 => some σ1)
set_option maxHeartbeats 4000000 in
set_option maxRecDepth 100000 in
theorem c_X1_begin {l : Launch} {g : va_G} {ts : ClassId × ClassId × ClassId} {a : Nat → Nat} {σ : St} {i0 : Nat} {p1 : Int32} {p2 : Int32} {σ' : St} (hi0 : i0 < 2) (hf : f_X1_begin σ i0 p1 p2 = some σ') : ConV l g ts (WC ts a) yX1_begin cX1_begin 3 none (rk 1 23) σ [.ref (a (30 + 3 * i0)), .int p1, .int p2] σ' := by
  refine ConV_mk rfl rfl (by decide) (Nat.le_of_ble_eq_true rfl) ?_
  intro p e s m below meth c A Q ls C hQ hP hD hS hl
  have C : FX p s m _ meth c RX1 cX1_begin 3 g ts A := C
  have hx := C.1
  have hb := C.2.1
  have hown := C.2.2.2.1
  have hts := C.2.2.2.2.1
  have hl : lv_has ls 3 [(0, .ref (a (30 + 3 * i0))), (1, .int p1), (2, .int p2)] := hl
  rw [f_X1_begin] at hf
  refine lv_aload_n hx hb dX1_begin_0 rfl (lv_at hl 0 rfl) ?_
  refine lv_iload_n hx hb dX1_begin_1 rfl (lv_at hl 1 rfl) ?_
  refine S_X1_name hi0 C hP hD hS q_303 dX1_begin_2 (fun H locs hP hD hS => ?_)
  refine lv_aload_n hx hb dX1_begin_5 rfl (lv_at hl 0 rfl) ?_
  refine lv_iload_n hx hb dX1_begin_6 rfl (lv_at hl 2 rfl) ?_
  refine S_X1_z hi0 C hP hD hS q_313 dX1_begin_7 (fun H locs hP hD hS => ?_)
  refine lv_aload_n hx hb dX1_begin_10 rfl (lv_at hl 0 rfl) ?_
  refine G_X1_said hi0 C hP q_299 dX1_begin_11 ?_
  refine lv_iconst (v := 0) hx hb dX1_begin_14 (by decide) ?_
  refine tV [] C hP hD hS (c_fillI (arr_X1_said hi0) (aput_X1_said hi0) (Nat.le_of_ble_eq_true rfl)) ms_fillI q_902 dX1_begin_15 ⟨Nat.le_of_ble_eq_true rfl, Nat.le_of_ble_eq_true rfl⟩ ⟨Nat.zero_le _, Nat.zero_le _⟩ rfl rfl (Nat.le_of_ble_eq_true rfl) hl.1 (fun H locs hP hD hS => ?_)
  refine nameS hP hD hf (fun σ1 hP hD hf => ?_)
  exact retV hQ hf dX1_begin_18 hP hD hS
theorem dX1_speak_0 : decode cX1_speak 0 = .ok (.iload 4, 2) := by decide +kernel
theorem dX1_speak_2 : decode cX1_speak 2 = .ok (.ifCond .eq 35, 3) := by decide +kernel
theorem dX1_speak_5 : decode cX1_speak 5 = .ok (.aload_n 0, 1) := by decide +kernel
theorem dX1_speak_6 : decode cX1_speak 6 = .ok (.aload_n 0, 1) := by decide +kernel
theorem dX1_speak_7 : decode cX1_speak 7 = .ok (.getfield 22, 3) := by decide +kernel
theorem dX1_speak_10 : decode cX1_speak 10 = .ok (.invokestatic 31, 3) := by decide +kernel
theorem dX1_speak_13 : decode cX1_speak 13 = .ok (.putfield 22, 3) := by decide +kernel
theorem dX1_speak_16 : decode cX1_speak 16 = .ok (.aload_n 0, 1) := by decide +kernel
theorem dX1_speak_17 : decode cX1_speak 17 = .ok (.getfield 22, 3) := by decide +kernel
theorem dX1_speak_20 : decode cX1_speak 20 = .ok (.bipush 8, 2) := by decide +kernel
theorem dX1_speak_22 : decode cX1_speak 22 = .ok (.iushr, 1) := by decide +kernel
theorem dX1_speak_23 : decode cX1_speak 23 = .ok (.bipush 12, 2) := by decide +kernel
theorem dX1_speak_25 : decode cX1_speak 25 = .ok (.irem, 1) := by decide +kernel
theorem dX1_speak_26 : decode cX1_speak 26 = .ok (.aload_n 1, 1) := by decide +kernel
theorem dX1_speak_27 : decode cX1_speak 27 = .ok (.getfield 35, 3) := by decide +kernel
theorem dX1_speak_30 : decode cX1_speak 30 = .ok (.iload_n 2, 1) := by decide +kernel
theorem dX1_speak_31 : decode cX1_speak 31 = .ok (.iaload, 1) := by decide +kernel
theorem dX1_speak_32 : decode cX1_speak 32 = .ok (.if_icmp .ge 5, 3) := by decide +kernel
theorem dX1_speak_35 : decode cX1_speak 35 = .ok (.iload_n 2, 1) := by decide +kernel
theorem dX1_speak_36 : decode cX1_speak 36 = .ok (.ireturn, 1) := by decide +kernel
theorem dX1_speak_37 : decode cX1_speak 37 = .ok (.aload_n 0, 1) := by decide +kernel
theorem dX1_speak_38 : decode cX1_speak 38 = .ok (.getfield 9, 3) := by decide +kernel
theorem dX1_speak_41 : decode cX1_speak 41 = .ok (.iload_n 3, 1) := by decide +kernel
theorem dX1_speak_42 : decode cX1_speak 42 = .ok (.iaload, 1) := by decide +kernel
theorem dX1_speak_43 : decode cX1_speak 43 = .ok (.bipush 9, 2) := by decide +kernel
theorem dX1_speak_45 : decode cX1_speak 45 = .ok (.invokestatic 40, 3) := by decide +kernel
theorem dX1_speak_48 : decode cX1_speak 48 = .ok (.istore 5, 2) := by decide +kernel
theorem dX1_speak_50 : decode cX1_speak 50 = .ok (.aload_n 1, 1) := by decide +kernel
theorem dX1_speak_51 : decode cX1_speak 51 = .ok (.iload_n 2, 1) := by decide +kernel
theorem dX1_speak_52 : decode cX1_speak 52 = .ok (.iload 5, 2) := by decide +kernel
theorem dX1_speak_54 : decode cX1_speak 54 = .ok (.invokevirtual 46, 3) := by decide +kernel
theorem dX1_speak_57 : decode cX1_speak 57 = .ok (.ifCond .le 14, 3) := by decide +kernel
theorem dX1_speak_60 : decode cX1_speak 60 = .ok (.aload_n 0, 1) := by decide +kernel
theorem dX1_speak_61 : decode cX1_speak 61 = .ok (.aload_n 0, 1) := by decide +kernel
theorem dX1_speak_62 : decode cX1_speak 62 = .ok (.getfield 22, 3) := by decide +kernel
theorem dX1_speak_65 : decode cX1_speak 65 = .ok (.invokestatic 31, 3) := by decide +kernel
theorem dX1_speak_68 : decode cX1_speak 68 = .ok (.putfield 22, 3) := by decide +kernel
theorem dX1_speak_71 : decode cX1_speak 71 = .ok (.aload_n 1, 1) := by decide +kernel
theorem dX1_speak_72 : decode cX1_speak 72 = .ok (.aload_n 0, 1) := by decide +kernel
theorem dX1_speak_73 : decode cX1_speak 73 = .ok (.getfield 22, 3) := by decide +kernel
theorem dX1_speak_76 : decode cX1_speak 76 = .ok (.iload_n 2, 1) := by decide +kernel
theorem dX1_speak_77 : decode cX1_speak 77 = .ok (.iload 5, 2) := by decide +kernel
theorem dX1_speak_79 : decode cX1_speak 79 = .ok (.invokevirtual 49, 3) := by decide +kernel
theorem dX1_speak_82 : decode cX1_speak 82 = .ok (.ireturn, 1) := by decide +kernel
def f_X1_speak_b71 (σ : St) (o0 : Nat) (x2 : Int32) (x5 : Int32) : Option (Int32 × St) := bnd2 (f_X5_heardBy σ (σ.1 57 o0) x2 x5) (fun r15 σ16 => some (r15, σ16))
def f_X1_speak_b37 (σ : St) (o0 : Nat) (x2 : Int32) (x3 : Int32) : Option (Int32 × St) := chk (x3 < 0 ∨ 6 ≤ x3.toNatClampNeg) (bnd (if (9 : Int32) < σ.2.2.1 50 o0 x3.toNatClampNeg then (9 : Int32) else σ.2.2.1 50 o0 x3.toNatClampNeg) (fun v7 => bnd2 (f_X5_total σ x2 v7) (fun r9 σ10 => if r9 ≤ 0 then (f_X1_speak_b71 σ10 o0 x2 v7) else (bnd1 (f_X11_nextDraw (σ10.1 57 o0)) (fun r13 => f_X1_speak_b71 (sI σ10 57 o0 r13) o0 x2 v7)))))
def f_X1_speak (σ : St) (i0 : Nat) (p2 : Int32) (p3 : Int32) (p4 : Int32) : Option (Int32 × St) := if p4 = 0 then (f_X1_speak_b37 σ i0 p2 p3) else (bnd1 (f_X11_nextDraw (σ.1 57 i0)) (fun r3 => chk (p2 < 0 ∨ 12 ≤ p2.toNatClampNeg) (if (sI σ 57 i0 r3).2.2.1 252 0 p2.toNatClampNeg ≤ ((((sI σ 57 i0 r3).1 57 i0).toUInt32 >>> (((8 : Int32) : Int32).toUInt32 &&& Int32.toUInt32 31)).toInt32) - ((((sI σ 57 i0 r3).1 57 i0).toUInt32 >>> (((8 : Int32) : Int32).toUInt32 &&& Int32.toUInt32 31)).toInt32) / (12 : Int32) * (12 : Int32) then (f_X1_speak_b37 (sI σ 57 i0 r3) i0 p2 p3) else (some (p2, sI σ 57 i0 r3)))))
set_option maxHeartbeats 4000000 in
set_option maxRecDepth 100000 in
theorem w_X1_speak_b71 {p : Program} {l : Launch} {e : Env} {s : State} {m : MethodId} {args : Array Value} {below : List Frame} {meth : Method} {c : Code} {g : va_G} {ts : ClassId × ClassId × ClassId} {A : Nat → Prop} {Q : State → Prop} {a : Nat → Nat} {r : Int32} {σ' : St} (C : FX p s m args meth c RX1 cX1_speak 6 g ts A) (hQ : RetI p l e (rk 5 131) s m args below meth c cX1_speak g (WC ts a) A r σ' Q) : ∀ (σ : St) (o0 : Nat) (x2 : Int32) (x5 : Int32) (H : Heap) (locs : List Loc) (ls : Array Slot), f_X1_speak_b71 σ o0 x2 x5 = some (r, σ') → va_P g classes (WC ts a σ) H → va_D A (WC ts a σ) → va_S A s.heap H locs → o0 < 2 → lv_has ls 6 [(0, .ref (a (30 + 3 * o0))), (1, .ref (a 2)), (2, .int x2), (5, .int x5)] → W p l e (rk 5 131) s m args below meth c H locs 0 0 Q (F0 m 71 ls []) := by
  have hx := C.1
  have hb := C.2.1
  have hown := C.2.2.2.1
  have hts := C.2.2.2.2.1
  intro σ o0 x2 x5 H locs ls hf hP hD hS ho0 hl
  rw [f_X1_speak_b71] at hf
  refine lv_aload_n hx hb dX1_speak_71 rfl (lv_at hl 1 rfl) ?_
  refine lv_aload_n hx hb dX1_speak_72 rfl (lv_at hl 0 rfl) ?_
  refine G_X1_z ho0 C hP q_313 dX1_speak_73 ?_
  refine lv_iload_n hx hb dX1_speak_76 rfl (lv_at hl 2 rfl) ?_
  refine lv_iload hx hb dX1_speak_77 (lv_at hl 3 rfl) ?_
  obtain ⟨r15, σ16, h14, hf⟩ := bnd2_some hf
  refine vI [] C hP hD hS (c_X5_heardBy h14) mv_X5_heardBy q_918 rv_X5 dX1_speak_79 ⟨Nat.le_of_ble_eq_true rfl, Nat.le_of_ble_eq_true rfl⟩ ⟨Nat.zero_le _, Nat.zero_le _⟩ rfl rfl (Nat.le_of_ble_eq_true rfl) hl.1 (fun H locs hP hD hS => ?_)
  exact retI hQ hf dX1_speak_82 hP hD hS
set_option maxHeartbeats 4000000 in
set_option maxRecDepth 100000 in
theorem w_X1_speak_b37 {p : Program} {l : Launch} {e : Env} {s : State} {m : MethodId} {args : Array Value} {below : List Frame} {meth : Method} {c : Code} {g : va_G} {ts : ClassId × ClassId × ClassId} {A : Nat → Prop} {Q : State → Prop} {a : Nat → Nat} {r : Int32} {σ' : St} (C : FX p s m args meth c RX1 cX1_speak 6 g ts A) (hQ : RetI p l e (rk 5 131) s m args below meth c cX1_speak g (WC ts a) A r σ' Q) : ∀ (σ : St) (o0 : Nat) (x2 : Int32) (x3 : Int32) (H : Heap) (locs : List Loc) (ls : Array Slot), f_X1_speak_b37 σ o0 x2 x3 = some (r, σ') → va_P g classes (WC ts a σ) H → va_D A (WC ts a σ) → va_S A s.heap H locs → o0 < 2 → lv_has ls 6 [(0, .ref (a (30 + 3 * o0))), (1, .ref (a 2)), (2, .int x2), (3, .int x3)] → W p l e (rk 5 131) s m args below meth c H locs 0 0 Q (F0 m 37 ls []) := by
  have hx := C.1
  have hb := C.2.1
  have hown := C.2.2.2.1
  have hts := C.2.2.2.2.1
  intro σ o0 x2 x3 H locs ls hf hP hD hS ho0 hl
  rw [f_X1_speak_b37] at hf
  refine lv_aload_n hx hb dX1_speak_37 rfl (lv_at hl 0 rfl) ?_
  refine G_X1_said ho0 C hP q_299 dX1_speak_38 ?_
  refine lv_iload_n hx hb dX1_speak_41 rfl (lv_at hl 3 rfl) ?_
  obtain ⟨h6, hf⟩ := chk_some hf
  refine AL_X1_said ho0 C hP h6 dX1_speak_42 ?_
  refine lv_bipush (v := 9) hx hb dX1_speak_43 (by decide) ?_
  refine va_mmin hx hb (C.2.2.1.trans hl.1.symm) hown (hts _ q_916) (hts _ q_584) (hts _ q_74) (hts _ q_585) (Nat.le_of_ble_eq_true rfl) (Nat.le_of_ble_eq_true rfl) (Nat.zero_le _) (Nat.zero_le _) dX1_speak_45 ?_
  refine lv_topi (fun v7 ev7 => ?_)
  replace hf := bnd_at ev7 hf
  refine lv_istore (lv' := [(5, .int v7), (0, .ref (a (30 + 3 * o0))), (1, .ref (a 2)), (2, .int x2), (3, .int x3)]) hx hb dX1_speak_48 hl (by decide) rfl (fun ls hl => ?_)
  refine lv_aload_n hx hb dX1_speak_50 rfl (lv_at hl 2 rfl) ?_
  refine lv_iload_n hx hb dX1_speak_51 rfl (lv_at hl 3 rfl) ?_
  refine lv_iload hx hb dX1_speak_52 (lv_at hl 0 rfl) ?_
  obtain ⟨r9, σ10, h8, hf⟩ := bnd2_some hf
  refine vI [] C hP hD hS (c_X5_total h8) mv_X5_total q_917 rv_X5 dX1_speak_54 ⟨Nat.le_of_ble_eq_true rfl, Nat.le_of_ble_eq_true rfl⟩ ⟨Nat.zero_le _, Nat.zero_le _⟩ rfl rfl (Nat.le_of_ble_eq_true rfl) hl.1 (fun H locs hP hD hS => ?_)
  refine lv_if_le (tgt := 71) hx hb dX1_speak_57 (by decide) (fun c11 => ?_) (fun c11 => ?_)
  · replace hf := ipos c11 hf
    exact w_X1_speak_b71 C hQ _ _ _ _ _ _ _ hf hP hD hS ho0 (lv_sub hl [1, 2, 3, 0] rfl)
  · replace hf := ineg c11 hf
    refine lv_aload_n hx hb dX1_speak_60 rfl (lv_at hl 1 rfl) ?_
    refine lv_aload_n hx hb dX1_speak_61 rfl (lv_at hl 1 rfl) ?_
    refine G_X1_z ho0 C hP q_313 dX1_speak_62 ?_
    obtain ⟨r13, h12, hf⟩ := bnd1_some hf
    refine tnI (host := RX11) [.ref (a (30 + 3 * o0))] C hP hD hS (c_X11_nextDraw h12) ms_X11_nextDraw (by decide +kernel) dX1_speak_65 ⟨Nat.le_of_ble_eq_true rfl, Nat.le_of_ble_eq_true rfl⟩ ⟨Nat.zero_le _, Nat.zero_le _⟩ rfl rfl (Nat.le_of_ble_eq_true rfl) hl.1 (fun H locs hP hD hS => ?_)
    refine S_X1_z ho0 C hP hD hS q_313 dX1_speak_68 (fun H locs hP hD hS => ?_)
    exact w_X1_speak_b71 C hQ _ _ _ _ _ _ _ hf hP hD hS ho0 (lv_sub hl [1, 2, 3, 0] rfl)
set_option maxHeartbeats 4000000 in
set_option maxRecDepth 100000 in
theorem c_X1_speak {l : Launch} {g : va_G} {ts : ClassId × ClassId × ClassId} {a : Nat → Nat} {σ : St} {i0 : Nat} {p2 : Int32} {p3 : Int32} {p4 : Int32} {r : Int32} {σ' : St} (hi0 : i0 < 2) (hf : f_X1_speak σ i0 p2 p3 p4 = some (r, σ')) : ConI l g ts (WC ts a) yX1_speak cX1_speak 6 (some .int) (rk 5 131) σ [.ref (a (30 + 3 * i0)), .ref (a 2), .int p2, .int p3, .int p4] r σ' := by
  refine ConI_mk .int rfl rfl rfl rfl (by decide) (Nat.le_of_ble_eq_true rfl) ?_
  intro p e s m below meth c A Q ls C hQ hP hD hS hl
  have C : FX p s m _ meth c RX1 cX1_speak 6 g ts A := C
  have hx := C.1
  have hb := C.2.1
  have hown := C.2.2.2.1
  have hts := C.2.2.2.2.1
  have hl : lv_has ls 6 [(0, .ref (a (30 + 3 * i0))), (1, .ref (a 2)), (2, .int p2), (3, .int p3), (4, .int p4)] := hl
  rw [f_X1_speak] at hf
  refine lv_iload hx hb dX1_speak_0 (lv_at hl 4 rfl) ?_
  refine lv_if_eq (tgt := 37) hx hb dX1_speak_2 (by decide) (fun c1 => ?_) (fun c1 => ?_)
  · replace hf := ipos c1 hf
    exact w_X1_speak_b37 C hQ _ _ _ _ _ _ _ hf hP hD hS hi0 (lv_sub hl [0, 1, 2, 3] rfl)
  · replace hf := ineg c1 hf
    refine lv_aload_n hx hb dX1_speak_5 rfl (lv_at hl 0 rfl) ?_
    refine lv_aload_n hx hb dX1_speak_6 rfl (lv_at hl 0 rfl) ?_
    refine G_X1_z hi0 C hP q_313 dX1_speak_7 ?_
    obtain ⟨r3, h2, hf⟩ := bnd1_some hf
    refine tnI (host := RX11) [.ref (a (30 + 3 * i0))] C hP hD hS (c_X11_nextDraw h2) ms_X11_nextDraw (by decide +kernel) dX1_speak_10 ⟨Nat.le_of_ble_eq_true rfl, Nat.le_of_ble_eq_true rfl⟩ ⟨Nat.zero_le _, Nat.zero_le _⟩ rfl rfl (Nat.le_of_ble_eq_true rfl) hl.1 (fun H locs hP hD hS => ?_)
    refine S_X1_z hi0 C hP hD hS q_313 dX1_speak_13 (fun H locs hP hD hS => ?_)
    refine lv_aload_n hx hb dX1_speak_16 rfl (lv_at hl 0 rfl) ?_
    refine G_X1_z hi0 C hP q_313 dX1_speak_17 ?_
    refine lv_bipush (v := 8) hx hb dX1_speak_20 (by decide) ?_
    refine lv_iushr (v := (((sI σ 57 i0 r3).1 57 i0).toUInt32 >>> (((8 : Int32) : Int32).toUInt32 &&& Int32.toUInt32 31)).toInt32) hx hb dX1_speak_22 rfl ?_
    refine lv_bipush (v := 12) hx hb dX1_speak_23 (by decide) ?_
    refine lv_irem hx hb dX1_speak_25 (by decide) ?_
    refine lv_aload_n hx hb dX1_speak_26 rfl (lv_at hl 1 rfl) ?_
    refine G_X5_clear C hP q_123 dX1_speak_27 ?_
    refine lv_iload_n hx hb dX1_speak_30 rfl (lv_at hl 2 rfl) ?_
    obtain ⟨h4, hf⟩ := chk_some hf
    refine AL_X5_clear C hP h4 dX1_speak_31 ?_
    refine lv_icmp_ge (tgt := 37) hx hb dX1_speak_32 (by decide) (fun c5 => ?_) (fun c5 => ?_)
    · replace hf := ipos c5 hf
      exact w_X1_speak_b37 C hQ _ _ _ _ _ _ _ hf hP hD hS hi0 (lv_sub hl [0, 1, 2, 3] rfl)
    · replace hf := ineg c5 hf
      refine lv_iload_n hx hb dX1_speak_35 rfl (lv_at hl 2 rfl) ?_
      exact retI hQ hf dX1_speak_36 hP hD hS
theorem dX1_write_0 : decode cX1_write 0 = .ok (.aload_n 0, 1) := by decide +kernel
theorem dX1_write_1 : decode cX1_write 1 = .ok (.getfield 15, 3) := by decide +kernel
theorem dX1_write_4 : decode cX1_write 4 = .ok (.iload_n 1, 1) := by decide +kernel
theorem dX1_write_5 : decode cX1_write 5 = .ok (.iload_n 2, 1) := by decide +kernel
theorem dX1_write_6 : decode cX1_write 6 = .ok (.iastore, 1) := by decide +kernel
theorem dX1_write_7 : decode cX1_write 7 = .ok (.aload_n 0, 1) := by decide +kernel
theorem dX1_write_8 : decode cX1_write 8 = .ok (.getfield 9, 3) := by decide +kernel
theorem dX1_write_11 : decode cX1_write 11 = .ok (.iload_n 1, 1) := by decide +kernel
theorem dX1_write_12 : decode cX1_write 12 = .ok (.dup2, 1) := by decide +kernel
theorem dX1_write_13 : decode cX1_write 13 = .ok (.iaload, 1) := by decide +kernel
theorem dX1_write_14 : decode cX1_write 14 = .ok (.iconst 1, 1) := by decide +kernel
theorem dX1_write_15 : decode cX1_write 15 = .ok (.iadd, 1) := by decide +kernel
theorem dX1_write_16 : decode cX1_write 16 = .ok (.iastore, 1) := by decide +kernel
theorem dX1_write_17 : decode cX1_write 17 = .ok (.aload_n 0, 1) := by decide +kernel
theorem dX1_write_18 : decode cX1_write 18 = .ok (.dup, 1) := by decide +kernel
theorem dX1_write_19 : decode cX1_write 19 = .ok (.getfield 53, 3) := by decide +kernel
theorem dX1_write_22 : decode cX1_write 22 = .ok (.iconst 1, 1) := by decide +kernel
theorem dX1_write_23 : decode cX1_write 23 = .ok (.iadd, 1) := by decide +kernel
theorem dX1_write_24 : decode cX1_write 24 = .ok (.putfield 53, 3) := by decide +kernel
theorem dX1_write_27 : decode cX1_write 27 = .ok (.aload_n 0, 1) := by decide +kernel
theorem dX1_write_28 : decode cX1_write 28 = .ok (.dup, 1) := by decide +kernel
theorem dX1_write_29 : decode cX1_write 29 = .ok (.getfield 56, 3) := by decide +kernel
theorem dX1_write_32 : decode cX1_write 32 = .ok (.iload_n 3, 1) := by decide +kernel
theorem dX1_write_33 : decode cX1_write 33 = .ok (.iadd, 1) := by decide +kernel
theorem dX1_write_34 : decode cX1_write 34 = .ok (.putfield 56, 3) := by decide +kernel
theorem dX1_write_37 : decode cX1_write 37 = .ok (.return_, 1) := by decide +kernel
def f_X1_write (σ : St) (i0 : Nat) (p1 : Int32) (p2 : Int32) (p3 : Int32) : Option St := chk (p1 < 0 ∨ 6 ≤ p1.toNatClampNeg) (bnd (sA σ 51 i0 (upd (σ.2.2.1 51 i0) p1.toNatClampNeg p2)) (fun σ2 => chk (p1 < 0 ∨ 6 ≤ p1.toNatClampNeg) (chk (p1 < 0 ∨ 6 ≤ p1.toNatClampNeg) (bnd (sA σ2 50 i0 (upd (σ2.2.2.1 50 i0) p1.toNatClampNeg ((σ2.2.2.1 50 i0 p1.toNatClampNeg) + (1 : Int32)))) (fun σ5 => bnd (sI (sI σ5 56 i0 ((σ5.1 56 i0) + (1 : Int32))) 55 i0 (((sI σ5 56 i0 ((σ5.1 56 i0) + (1 : Int32))).1 55 i0) + p3)) (fun σ6 => some σ6))))))
set_option maxHeartbeats 4000000 in
set_option maxRecDepth 100000 in
theorem c_X1_write {l : Launch} {g : va_G} {ts : ClassId × ClassId × ClassId} {a : Nat → Nat} {σ : St} {i0 : Nat} {p1 : Int32} {p2 : Int32} {p3 : Int32} {σ' : St} (hi0 : i0 < 2) (hf : f_X1_write σ i0 p1 p2 p3 = some σ') : ConV l g ts (WC ts a) yX1_write cX1_write 4 none (rk 0 0) σ [.ref (a (30 + 3 * i0)), .int p1, .int p2, .int p3] σ' := by
  refine ConV_mk rfl rfl (by decide) (Nat.le_of_ble_eq_true rfl) ?_
  intro p e s m below meth c A Q ls C hQ hP hD hS hl
  have C : FX p s m _ meth c RX1 cX1_write 4 g ts A := C
  have hx := C.1
  have hb := C.2.1
  have hown := C.2.2.2.1
  have hts := C.2.2.2.2.1
  have hl : lv_has ls 4 [(0, .ref (a (30 + 3 * i0))), (1, .int p1), (2, .int p2), (3, .int p3)] := hl
  rw [f_X1_write] at hf
  refine lv_aload_n hx hb dX1_write_0 rfl (lv_at hl 0 rfl) ?_
  refine G_X1_noted hi0 C hP q_301 dX1_write_1 ?_
  refine lv_iload_n hx hb dX1_write_4 rfl (lv_at hl 1 rfl) ?_
  refine lv_iload_n hx hb dX1_write_5 rfl (lv_at hl 2 rfl) ?_
  obtain ⟨h1, hf⟩ := chk_some hf
  refine AS_X1_noted hi0 C hP hD hS h1 dX1_write_6 (fun H locs hP hD hS => ?_)
  refine nameS hP hD hf (fun σ2 hP hD hf => ?_)
  refine lv_aload_n hx hb dX1_write_7 rfl (lv_at hl 0 rfl) ?_
  refine G_X1_said hi0 C hP q_299 dX1_write_8 ?_
  refine lv_iload_n hx hb dX1_write_11 rfl (lv_at hl 1 rfl) ?_
  refine lv_dup2_11 hx hb dX1_write_12 rfl rfl ?_
  obtain ⟨h3, hf⟩ := chk_some hf
  refine AL_X1_said hi0 C hP h3 dX1_write_13 ?_
  refine lv_iconst (v := 1) hx hb dX1_write_14 (by decide) ?_
  refine lv_iadd hx hb dX1_write_15 ?_
  obtain ⟨h4, hf⟩ := chk_some hf
  refine AS_X1_said hi0 C hP hD hS h4 dX1_write_16 (fun H locs hP hD hS => ?_)
  refine nameS hP hD hf (fun σ5 hP hD hf => ?_)
  refine lv_aload_n hx hb dX1_write_17 rfl (lv_at hl 0 rfl) ?_
  refine lv_dup hx hb dX1_write_18 rfl ?_
  refine G_X1_spoken hi0 C hP q_311 dX1_write_19 ?_
  refine lv_iconst (v := 1) hx hb dX1_write_22 (by decide) ?_
  refine lv_iadd hx hb dX1_write_23 ?_
  refine S_X1_spoken hi0 C hP hD hS q_311 dX1_write_24 (fun H locs hP hD hS => ?_)
  refine lv_aload_n hx hb dX1_write_27 rfl (lv_at hl 0 rfl) ?_
  refine lv_dup hx hb dX1_write_28 rfl ?_
  refine G_X1_spent hi0 C hP q_309 dX1_write_29 ?_
  refine lv_iload_n hx hb dX1_write_32 rfl (lv_at hl 3 rfl) ?_
  refine lv_iadd hx hb dX1_write_33 ?_
  refine S_X1_spent hi0 C hP hD hS q_309 dX1_write_34 (fun H locs hP hD hS => ?_)
  refine nameS hP hD hf (fun σ6 hP hD hf => ?_)
  exact retV hQ hf dX1_write_37 hP hD hS
theorem dX1_missing_0 : decode cX1_missing 0 = .ok (.iconst 0, 1) := by decide +kernel
theorem dX1_missing_1 : decode cX1_missing 1 = .ok (.istore_n 2, 1) := by decide +kernel
theorem dX1_missing_2 : decode cX1_missing 2 = .ok (.iconst 0, 1) := by decide +kernel
theorem dX1_missing_3 : decode cX1_missing 3 = .ok (.istore_n 3, 1) := by decide +kernel
theorem dX1_missing_4 : decode cX1_missing 4 = .ok (.aload_n 0, 1) := by decide +kernel
theorem dX1_missing_5 : decode cX1_missing 5 = .ok (.getfield 18, 3) := by decide +kernel
theorem dX1_missing_8 : decode cX1_missing 8 = .ok (.ifCond .lt 34, 3) := by decide +kernel
theorem dX1_missing_11 : decode cX1_missing 11 = .ok (.iload_n 3, 1) := by decide +kernel
theorem dX1_missing_12 : decode cX1_missing 12 = .ok (.aload_n 1, 1) := by decide +kernel
theorem dX1_missing_13 : decode cX1_missing 13 = .ok (.getfield 59, 3) := by decide +kernel
theorem dX1_missing_16 : decode cX1_missing 16 = .ok (.aload_n 0, 1) := by decide +kernel
theorem dX1_missing_17 : decode cX1_missing 17 = .ok (.getfield 18, 3) := by decide +kernel
theorem dX1_missing_20 : decode cX1_missing 20 = .ok (.iaload, 1) := by decide +kernel
theorem dX1_missing_21 : decode cX1_missing 21 = .ok (.if_icmp .ge 21, 3) := by decide +kernel
theorem dX1_missing_24 : decode cX1_missing 24 = .ok (.aload_n 0, 1) := by decide +kernel
theorem dX1_missing_25 : decode cX1_missing 25 = .ok (.getfield 9, 3) := by decide +kernel
theorem dX1_missing_28 : decode cX1_missing 28 = .ok (.iload_n 3, 1) := by decide +kernel
theorem dX1_missing_29 : decode cX1_missing 29 = .ok (.iaload, 1) := by decide +kernel
theorem dX1_missing_30 : decode cX1_missing 30 = .ok (.ifCond .ne 6, 3) := by decide +kernel
theorem dX1_missing_33 : decode cX1_missing 33 = .ok (.iinc 2 1, 3) := by decide +kernel
theorem dX1_missing_36 : decode cX1_missing 36 = .ok (.iinc 3 1, 3) := by decide +kernel
theorem dX1_missing_39 : decode cX1_missing 39 = .ok (.goto (-35), 3) := by decide +kernel
theorem dX1_missing_42 : decode cX1_missing 42 = .ok (.iload_n 2, 1) := by decide +kernel
theorem dX1_missing_43 : decode cX1_missing 43 = .ok (.ireturn, 1) := by decide +kernel
def f_X1_missing_b4 : Nat → St → Nat → Int32 → Int32 → Option (Int32 × St)
  | 0, _, _, _, _ => none
  | n + 1, σ, o0, x2, x3 => if σ.1 52 o0 < 0 then (some (x2, σ)) else (chk (σ.1 52 o0 < 0 ∨ 10 ≤ (σ.1 52 o0).toNatClampNeg) (if σ.2.2.1 301 0 (σ.1 52 o0).toNatClampNeg ≤ x3 then (some (x2, σ)) else (chk (x3 < 0 ∨ 6 ≤ x3.toNatClampNeg) (if σ.2.2.1 50 o0 x3.toNatClampNeg = 0 then (bnd (x2 + 1) (fun v7 => bnd (x3 + 1) (fun v8 => f_X1_missing_b4 n σ o0 v7 v8))) else (bnd (x3 + 1) (fun v6 => f_X1_missing_b4 n σ o0 x2 v6))))))
def f_X1_missing (σ : St) (i0 : Nat) : Option (Int32 × St) := f_X1_missing_b4 256 σ i0 (0 : Int32) (0 : Int32)
set_option maxHeartbeats 4000000 in
set_option maxRecDepth 100000 in
theorem w_X1_missing_b4 {p : Program} {l : Launch} {e : Env} {s : State} {m : MethodId} {args : Array Value} {below : List Frame} {meth : Method} {c : Code} {g : va_G} {ts : ClassId × ClassId × ClassId} {A : Nat → Prop} {Q : State → Prop} {a : Nat → Nat} {r : Int32} {σ' : St} (C : FX p s m args meth c RX1 cX1_missing 4 g ts A) (hQ : RetI p l e (rk 0 0) s m args below meth c cX1_missing g (WC ts a) A r σ' Q) : ∀ (n : Nat) (σ : St) (o0 : Nat) (x2 : Int32) (x3 : Int32) (H : Heap) (locs : List Loc) (ls : Array Slot), f_X1_missing_b4 n σ o0 x2 x3 = some (r, σ') → va_P g classes (WC ts a σ) H → va_D A (WC ts a σ) → va_S A s.heap H locs → o0 < 2 → lv_has ls 4 [(0, .ref (a (30 + 3 * o0))), (1, .ref (a 8)), (2, .int x2), (3, .int x3)] → W p l e (rk 0 0) s m args below meth c H locs 0 0 Q (F0 m 4 ls []) := by
  have hx := C.1
  have hb := C.2.1
  have hown := C.2.2.2.1
  have hts := C.2.2.2.2.1
  intro n
  induction n with
  | zero =>
    intro σ o0 x2 x3 H locs ls hf
    cases hf
  | succ n ih =>
    intro σ o0 x2 x3 H locs ls hf hP hD hS ho0 hl
    rw [f_X1_missing_b4] at hf
    refine lv_aload_n hx hb dX1_missing_4 rfl (lv_at hl 0 rfl) ?_
    refine G_X1_name ho0 C hP q_303 dX1_missing_5 ?_
    refine lv_if_lt (tgt := 42) hx hb dX1_missing_8 (by decide) (fun c1 => ?_) (fun c1 => ?_)
    · replace hf := ipos c1 hf
      refine lv_iload_n hx hb dX1_missing_42 rfl (lv_at hl 2 rfl) ?_
      exact retI hQ hf dX1_missing_43 hP hD hS
    · replace hf := ineg c1 hf
      refine lv_iload_n hx hb dX1_missing_11 rfl (lv_at hl 3 rfl) ?_
      refine lv_aload_n hx hb dX1_missing_12 rfl (lv_at hl 1 rfl) ?_
      refine G_X6_sizes C hP q_160 dX1_missing_13 ?_
      refine lv_aload_n hx hb dX1_missing_16 rfl (lv_at hl 0 rfl) ?_
      refine G_X1_name ho0 C hP q_303 dX1_missing_17 ?_
      obtain ⟨h2, hf⟩ := chk_some hf
      refine AL_X6_sizes C hP h2 dX1_missing_20 ?_
      refine lv_icmp_ge (tgt := 42) hx hb dX1_missing_21 (by decide) (fun c3 => ?_) (fun c3 => ?_)
      · replace hf := ipos c3 hf
        refine lv_iload_n hx hb dX1_missing_42 rfl (lv_at hl 2 rfl) ?_
        exact retI hQ hf dX1_missing_43 hP hD hS
      · replace hf := ineg c3 hf
        refine lv_aload_n hx hb dX1_missing_24 rfl (lv_at hl 0 rfl) ?_
        refine G_X1_said ho0 C hP q_299 dX1_missing_25 ?_
        refine lv_iload_n hx hb dX1_missing_28 rfl (lv_at hl 3 rfl) ?_
        obtain ⟨h4, hf⟩ := chk_some hf
        refine AL_X1_said ho0 C hP h4 dX1_missing_29 ?_
        refine lv_if_ne (tgt := 36) hx hb dX1_missing_30 (by decide) (fun c5 => ?_) (fun c5 => ?_)
        · replace hf := ineg c5 hf
          obtain ⟨v6, ev6⟩ : ∃ z : Int32, z = x3 + 1 := ⟨_, rfl⟩
          replace hf := bnd_at ev6 hf
          refine lv_iinc (v := v6) (lv' := [(3, .int v6), (0, .ref (a (30 + 3 * o0))), (1, .ref (a 8)), (2, .int x2)]) hx hb dX1_missing_36 hl (k := 3) rfl (by rw [ev6]; rfl) (by decide) rfl (fun ls hl => ?_)
          refine lv_goto (tgt := 4) hx hb dX1_missing_39 (by decide) ?_
          exact ih _ _ _ _ _ _ _ hf hP hD hS ho0 (lv_sub hl [1, 2, 3, 0] rfl)
        · replace hf := ipos c5 hf
          obtain ⟨v7, ev7⟩ : ∃ z : Int32, z = x2 + 1 := ⟨_, rfl⟩
          replace hf := bnd_at ev7 hf
          refine lv_iinc (v := v7) (lv' := [(2, .int v7), (0, .ref (a (30 + 3 * o0))), (1, .ref (a 8)), (3, .int x3)]) hx hb dX1_missing_33 hl (k := 2) rfl (by rw [ev7]; rfl) (by decide) rfl (fun ls hl => ?_)
          obtain ⟨v8, ev8⟩ : ∃ z : Int32, z = x3 + 1 := ⟨_, rfl⟩
          replace hf := bnd_at ev8 hf
          refine lv_iinc (v := v8) (lv' := [(3, .int v8), (2, .int v7), (0, .ref (a (30 + 3 * o0))), (1, .ref (a 8))]) hx hb dX1_missing_36 hl (k := 3) rfl (by rw [ev8]; rfl) (by decide) rfl (fun ls hl => ?_)
          refine lv_goto (tgt := 4) hx hb dX1_missing_39 (by decide) ?_
          exact ih _ _ _ _ _ _ _ hf hP hD hS ho0 (lv_sub hl [2, 3, 1, 0] rfl)
set_option maxHeartbeats 4000000 in
set_option maxRecDepth 100000 in
theorem c_X1_missing {l : Launch} {g : va_G} {ts : ClassId × ClassId × ClassId} {a : Nat → Nat} {σ : St} {i0 : Nat} {r : Int32} {σ' : St} (hi0 : i0 < 2) (hf : f_X1_missing σ i0 = some (r, σ')) : ConI l g ts (WC ts a) yX1_missing cX1_missing 4 (some .int) (rk 0 0) σ [.ref (a (30 + 3 * i0)), .ref (a 8)] r σ' := by
  refine ConI_mk .int rfl rfl rfl rfl (by decide) (Nat.le_of_ble_eq_true rfl) ?_
  intro p e s m below meth c A Q ls C hQ hP hD hS hl
  have C : FX p s m _ meth c RX1 cX1_missing 4 g ts A := C
  have hx := C.1
  have hb := C.2.1
  have hown := C.2.2.2.1
  have hts := C.2.2.2.2.1
  have hl : lv_has ls 4 [(0, .ref (a (30 + 3 * i0))), (1, .ref (a 8))] := hl
  rw [f_X1_missing] at hf
  refine lv_iconst (v := 0) hx hb dX1_missing_0 (by decide) ?_
  refine lv_istore_n (lv' := [(2, .int (0 : Int32)), (0, .ref (a (30 + 3 * i0))), (1, .ref (a 8))]) hx hb dX1_missing_1 rfl hl (by decide) rfl (fun ls hl => ?_)
  refine lv_iconst (v := 0) hx hb dX1_missing_2 (by decide) ?_
  refine lv_istore_n (lv' := [(3, .int (0 : Int32)), (2, .int (0 : Int32)), (0, .ref (a (30 + 3 * i0))), (1, .ref (a 8))]) hx hb dX1_missing_3 rfl hl (by decide) rfl (fun ls hl => ?_)
  exact w_X1_missing_b4 C hQ 256 _ _ _ _ _ _ _ hf hP hD hS hi0 (lv_sub hl [2, 3, 1, 0] rfl)
theorem dX1_wrong_0 : decode cX1_wrong 0 = .ok (.iconst 0, 1) := by decide +kernel
theorem dX1_wrong_1 : decode cX1_wrong 1 = .ok (.istore_n 2, 1) := by decide +kernel
theorem dX1_wrong_2 : decode cX1_wrong 2 = .ok (.iconst 0, 1) := by decide +kernel
theorem dX1_wrong_3 : decode cX1_wrong 3 = .ok (.istore_n 3, 1) := by decide +kernel
theorem dX1_wrong_4 : decode cX1_wrong 4 = .ok (.aload_n 0, 1) := by decide +kernel
theorem dX1_wrong_5 : decode cX1_wrong 5 = .ok (.getfield 18, 3) := by decide +kernel
theorem dX1_wrong_8 : decode cX1_wrong 8 = .ok (.ifCond .lt 52, 3) := by decide +kernel
theorem dX1_wrong_11 : decode cX1_wrong 11 = .ok (.iload_n 3, 1) := by decide +kernel
theorem dX1_wrong_12 : decode cX1_wrong 12 = .ok (.aload_n 1, 1) := by decide +kernel
theorem dX1_wrong_13 : decode cX1_wrong 13 = .ok (.getfield 59, 3) := by decide +kernel
theorem dX1_wrong_16 : decode cX1_wrong 16 = .ok (.aload_n 0, 1) := by decide +kernel
theorem dX1_wrong_17 : decode cX1_wrong 17 = .ok (.getfield 18, 3) := by decide +kernel
theorem dX1_wrong_20 : decode cX1_wrong 20 = .ok (.iaload, 1) := by decide +kernel
theorem dX1_wrong_21 : decode cX1_wrong 21 = .ok (.if_icmp .ge 39, 3) := by decide +kernel
theorem dX1_wrong_24 : decode cX1_wrong 24 = .ok (.aload_n 0, 1) := by decide +kernel
theorem dX1_wrong_25 : decode cX1_wrong 25 = .ok (.getfield 9, 3) := by decide +kernel
theorem dX1_wrong_28 : decode cX1_wrong 28 = .ok (.iload_n 3, 1) := by decide +kernel
theorem dX1_wrong_29 : decode cX1_wrong 29 = .ok (.iaload, 1) := by decide +kernel
theorem dX1_wrong_30 : decode cX1_wrong 30 = .ok (.ifCond .le 24, 3) := by decide +kernel
theorem dX1_wrong_33 : decode cX1_wrong 33 = .ok (.aload_n 0, 1) := by decide +kernel
theorem dX1_wrong_34 : decode cX1_wrong 34 = .ok (.getfield 15, 3) := by decide +kernel
theorem dX1_wrong_37 : decode cX1_wrong 37 = .ok (.iload_n 3, 1) := by decide +kernel
theorem dX1_wrong_38 : decode cX1_wrong 38 = .ok (.iaload, 1) := by decide +kernel
theorem dX1_wrong_39 : decode cX1_wrong 39 = .ok (.aload_n 1, 1) := by decide +kernel
theorem dX1_wrong_40 : decode cX1_wrong 40 = .ok (.aload_n 0, 1) := by decide +kernel
theorem dX1_wrong_41 : decode cX1_wrong 41 = .ok (.getfield 18, 3) := by decide +kernel
theorem dX1_wrong_44 : decode cX1_wrong 44 = .ok (.iload_n 3, 1) := by decide +kernel
theorem dX1_wrong_45 : decode cX1_wrong 45 = .ok (.invokevirtual 64, 3) := by decide +kernel
theorem dX1_wrong_48 : decode cX1_wrong 48 = .ok (.if_icmp .eq 6, 3) := by decide +kernel
theorem dX1_wrong_51 : decode cX1_wrong 51 = .ok (.iinc 2 1, 3) := by decide +kernel
theorem dX1_wrong_54 : decode cX1_wrong 54 = .ok (.iinc 3 1, 3) := by decide +kernel
theorem dX1_wrong_57 : decode cX1_wrong 57 = .ok (.goto (-53), 3) := by decide +kernel
theorem dX1_wrong_60 : decode cX1_wrong 60 = .ok (.iload_n 2, 1) := by decide +kernel
theorem dX1_wrong_61 : decode cX1_wrong 61 = .ok (.ireturn, 1) := by decide +kernel
def f_X1_wrong_b4 : Nat → St → Nat → Int32 → Int32 → Option (Int32 × St)
  | 0, _, _, _, _ => none
  | n + 1, σ, o0, x2, x3 => if σ.1 52 o0 < 0 then (some (x2, σ)) else (chk (σ.1 52 o0 < 0 ∨ 10 ≤ (σ.1 52 o0).toNatClampNeg) (if σ.2.2.1 301 0 (σ.1 52 o0).toNatClampNeg ≤ x3 then (some (x2, σ)) else (chk (x3 < 0 ∨ 6 ≤ x3.toNatClampNeg) (if σ.2.2.1 50 o0 x3.toNatClampNeg ≤ 0 then (bnd (x3 + 1) (fun v6 => f_X1_wrong_b4 n σ o0 x2 v6)) else (chk (x3 < 0 ∨ 6 ≤ x3.toNatClampNeg) (bnd2 (f_X6_at σ (σ.1 52 o0) x3) (fun r9 σ10 => if σ.2.2.1 51 o0 x3.toNatClampNeg = r9 then (bnd (x3 + 1) (fun v12 => f_X1_wrong_b4 n σ10 o0 x2 v12)) else (bnd (x2 + 1) (fun v13 => bnd (x3 + 1) (fun v14 => f_X1_wrong_b4 n σ10 o0 v13 v14))))))))))
def f_X1_wrong (σ : St) (i0 : Nat) : Option (Int32 × St) := f_X1_wrong_b4 256 σ i0 (0 : Int32) (0 : Int32)
set_option maxHeartbeats 4000000 in
set_option maxRecDepth 100000 in
theorem w_X1_wrong_b4 {p : Program} {l : Launch} {e : Env} {s : State} {m : MethodId} {args : Array Value} {below : List Frame} {meth : Method} {c : Code} {g : va_G} {ts : ClassId × ClassId × ClassId} {A : Nat → Prop} {Q : State → Prop} {a : Nat → Nat} {r : Int32} {σ' : St} (C : FX p s m args meth c RX1 cX1_wrong 4 g ts A) (hQ : RetI p l e (rk 1 22) s m args below meth c cX1_wrong g (WC ts a) A r σ' Q) : ∀ (n : Nat) (σ : St) (o0 : Nat) (x2 : Int32) (x3 : Int32) (H : Heap) (locs : List Loc) (ls : Array Slot), f_X1_wrong_b4 n σ o0 x2 x3 = some (r, σ') → va_P g classes (WC ts a σ) H → va_D A (WC ts a σ) → va_S A s.heap H locs → o0 < 2 → lv_has ls 4 [(0, .ref (a (30 + 3 * o0))), (1, .ref (a 8)), (2, .int x2), (3, .int x3)] → W p l e (rk 1 22) s m args below meth c H locs 0 0 Q (F0 m 4 ls []) := by
  have hx := C.1
  have hb := C.2.1
  have hown := C.2.2.2.1
  have hts := C.2.2.2.2.1
  intro n
  induction n with
  | zero =>
    intro σ o0 x2 x3 H locs ls hf
    cases hf
  | succ n ih =>
    intro σ o0 x2 x3 H locs ls hf hP hD hS ho0 hl
    rw [f_X1_wrong_b4] at hf
    refine lv_aload_n hx hb dX1_wrong_4 rfl (lv_at hl 0 rfl) ?_
    refine G_X1_name ho0 C hP q_303 dX1_wrong_5 ?_
    refine lv_if_lt (tgt := 60) hx hb dX1_wrong_8 (by decide) (fun c1 => ?_) (fun c1 => ?_)
    · replace hf := ipos c1 hf
      refine lv_iload_n hx hb dX1_wrong_60 rfl (lv_at hl 2 rfl) ?_
      exact retI hQ hf dX1_wrong_61 hP hD hS
    · replace hf := ineg c1 hf
      refine lv_iload_n hx hb dX1_wrong_11 rfl (lv_at hl 3 rfl) ?_
      refine lv_aload_n hx hb dX1_wrong_12 rfl (lv_at hl 1 rfl) ?_
      refine G_X6_sizes C hP q_160 dX1_wrong_13 ?_
      refine lv_aload_n hx hb dX1_wrong_16 rfl (lv_at hl 0 rfl) ?_
      refine G_X1_name ho0 C hP q_303 dX1_wrong_17 ?_
      obtain ⟨h2, hf⟩ := chk_some hf
      refine AL_X6_sizes C hP h2 dX1_wrong_20 ?_
      refine lv_icmp_ge (tgt := 60) hx hb dX1_wrong_21 (by decide) (fun c3 => ?_) (fun c3 => ?_)
      · replace hf := ipos c3 hf
        refine lv_iload_n hx hb dX1_wrong_60 rfl (lv_at hl 2 rfl) ?_
        exact retI hQ hf dX1_wrong_61 hP hD hS
      · replace hf := ineg c3 hf
        refine lv_aload_n hx hb dX1_wrong_24 rfl (lv_at hl 0 rfl) ?_
        refine G_X1_said ho0 C hP q_299 dX1_wrong_25 ?_
        refine lv_iload_n hx hb dX1_wrong_28 rfl (lv_at hl 3 rfl) ?_
        obtain ⟨h4, hf⟩ := chk_some hf
        refine AL_X1_said ho0 C hP h4 dX1_wrong_29 ?_
        refine lv_if_le (tgt := 54) hx hb dX1_wrong_30 (by decide) (fun c5 => ?_) (fun c5 => ?_)
        · replace hf := ipos c5 hf
          obtain ⟨v6, ev6⟩ : ∃ z : Int32, z = x3 + 1 := ⟨_, rfl⟩
          replace hf := bnd_at ev6 hf
          refine lv_iinc (v := v6) (lv' := [(3, .int v6), (0, .ref (a (30 + 3 * o0))), (1, .ref (a 8)), (2, .int x2)]) hx hb dX1_wrong_54 hl (k := 3) rfl (by rw [ev6]; rfl) (by decide) rfl (fun ls hl => ?_)
          refine lv_goto (tgt := 4) hx hb dX1_wrong_57 (by decide) ?_
          exact ih _ _ _ _ _ _ _ hf hP hD hS ho0 (lv_sub hl [1, 2, 3, 0] rfl)
        · replace hf := ineg c5 hf
          refine lv_aload_n hx hb dX1_wrong_33 rfl (lv_at hl 0 rfl) ?_
          refine G_X1_noted ho0 C hP q_301 dX1_wrong_34 ?_
          refine lv_iload_n hx hb dX1_wrong_37 rfl (lv_at hl 3 rfl) ?_
          obtain ⟨h7, hf⟩ := chk_some hf
          refine AL_X1_noted ho0 C hP h7 dX1_wrong_38 ?_
          refine lv_aload_n hx hb dX1_wrong_39 rfl (lv_at hl 1 rfl) ?_
          refine lv_aload_n hx hb dX1_wrong_40 rfl (lv_at hl 0 rfl) ?_
          refine G_X1_name ho0 C hP q_303 dX1_wrong_41 ?_
          refine lv_iload_n hx hb dX1_wrong_44 rfl (lv_at hl 3 rfl) ?_
          obtain ⟨r9, σ10, h8, hf⟩ := bnd2_some hf
          refine vI [.int (σ.2.2.1 51 o0 x3.toNatClampNeg)] C hP hD hS (c_X6_at h8) mv_X6_at q_939 rv_X6 dX1_wrong_45 ⟨Nat.le_of_ble_eq_true rfl, Nat.le_of_ble_eq_true rfl⟩ ⟨Nat.zero_le _, Nat.zero_le _⟩ rfl rfl (Nat.le_of_ble_eq_true rfl) hl.1 (fun H locs hP hD hS => ?_)
          refine lv_icmp_eq (tgt := 54) hx hb dX1_wrong_48 (by decide) (fun c11 => ?_) (fun c11 => ?_)
          · replace hf := ipos c11 hf
            obtain ⟨v12, ev12⟩ : ∃ z : Int32, z = x3 + 1 := ⟨_, rfl⟩
            replace hf := bnd_at ev12 hf
            refine lv_iinc (v := v12) (lv' := [(3, .int v12), (0, .ref (a (30 + 3 * o0))), (1, .ref (a 8)), (2, .int x2)]) hx hb dX1_wrong_54 hl (k := 3) rfl (by rw [ev12]; rfl) (by decide) rfl (fun ls hl => ?_)
            refine lv_goto (tgt := 4) hx hb dX1_wrong_57 (by decide) ?_
            exact ih _ _ _ _ _ _ _ hf hP hD hS ho0 (lv_sub hl [1, 2, 3, 0] rfl)
          · replace hf := ineg c11 hf
            obtain ⟨v13, ev13⟩ : ∃ z : Int32, z = x2 + 1 := ⟨_, rfl⟩
            replace hf := bnd_at ev13 hf
            refine lv_iinc (v := v13) (lv' := [(2, .int v13), (0, .ref (a (30 + 3 * o0))), (1, .ref (a 8)), (3, .int x3)]) hx hb dX1_wrong_51 hl (k := 2) rfl (by rw [ev13]; rfl) (by decide) rfl (fun ls hl => ?_)
            obtain ⟨v14, ev14⟩ : ∃ z : Int32, z = x3 + 1 := ⟨_, rfl⟩
            replace hf := bnd_at ev14 hf
            refine lv_iinc (v := v14) (lv' := [(3, .int v14), (2, .int v13), (0, .ref (a (30 + 3 * o0))), (1, .ref (a 8))]) hx hb dX1_wrong_54 hl (k := 3) rfl (by rw [ev14]; rfl) (by decide) rfl (fun ls hl => ?_)
            refine lv_goto (tgt := 4) hx hb dX1_wrong_57 (by decide) ?_
            exact ih _ _ _ _ _ _ _ hf hP hD hS ho0 (lv_sub hl [2, 3, 1, 0] rfl)
set_option maxHeartbeats 4000000 in
set_option maxRecDepth 100000 in
theorem c_X1_wrong {l : Launch} {g : va_G} {ts : ClassId × ClassId × ClassId} {a : Nat → Nat} {σ : St} {i0 : Nat} {r : Int32} {σ' : St} (hi0 : i0 < 2) (hf : f_X1_wrong σ i0 = some (r, σ')) : ConI l g ts (WC ts a) yX1_wrong cX1_wrong 4 (some .int) (rk 1 22) σ [.ref (a (30 + 3 * i0)), .ref (a 8)] r σ' := by
  refine ConI_mk .int rfl rfl rfl rfl (by decide) (Nat.le_of_ble_eq_true rfl) ?_
  intro p e s m below meth c A Q ls C hQ hP hD hS hl
  have C : FX p s m _ meth c RX1 cX1_wrong 4 g ts A := C
  have hx := C.1
  have hb := C.2.1
  have hown := C.2.2.2.1
  have hts := C.2.2.2.2.1
  have hl : lv_has ls 4 [(0, .ref (a (30 + 3 * i0))), (1, .ref (a 8))] := hl
  rw [f_X1_wrong] at hf
  refine lv_iconst (v := 0) hx hb dX1_wrong_0 (by decide) ?_
  refine lv_istore_n (lv' := [(2, .int (0 : Int32)), (0, .ref (a (30 + 3 * i0))), (1, .ref (a 8))]) hx hb dX1_wrong_1 rfl hl (by decide) rfl (fun ls hl => ?_)
  refine lv_iconst (v := 0) hx hb dX1_wrong_2 (by decide) ?_
  refine lv_istore_n (lv' := [(3, .int (0 : Int32)), (2, .int (0 : Int32)), (0, .ref (a (30 + 3 * i0))), (1, .ref (a 8))]) hx hb dX1_wrong_3 rfl hl (by decide) rfl (fun ls hl => ?_)
  exact w_X1_wrong_b4 C hQ 256 _ _ _ _ _ _ _ hf hP hD hS hi0 (lv_sub hl [2, 3, 1, 0] rfl)
theorem dX1_end_0 : decode cX1_end 0 = .ok (.aload_n 0, 1) := by decide +kernel
theorem dX1_end_1 : decode cX1_end 1 = .ok (.dup, 1) := by decide +kernel
theorem dX1_end_2 : decode cX1_end 2 = .ok (.getfield 67, 3) := by decide +kernel
theorem dX1_end_5 : decode cX1_end 5 = .ok (.iconst 1, 1) := by decide +kernel
theorem dX1_end_6 : decode cX1_end 6 = .ok (.iadd, 1) := by decide +kernel
theorem dX1_end_7 : decode cX1_end 7 = .ok (.putfield 67, 3) := by decide +kernel
theorem dX1_end_10 : decode cX1_end 10 = .ok (.aload_n 0, 1) := by decide +kernel
theorem dX1_end_11 : decode cX1_end 11 = .ok (.dup, 1) := by decide +kernel
theorem dX1_end_12 : decode cX1_end 12 = .ok (.getfield 70, 3) := by decide +kernel
theorem dX1_end_15 : decode cX1_end 15 = .ok (.iload_n 1, 1) := by decide +kernel
theorem dX1_end_16 : decode cX1_end 16 = .ok (.ifCond .eq 7, 3) := by decide +kernel
theorem dX1_end_19 : decode cX1_end 19 = .ok (.iconst 1, 1) := by decide +kernel
theorem dX1_end_20 : decode cX1_end 20 = .ok (.goto 4, 3) := by decide +kernel
theorem dX1_end_23 : decode cX1_end 23 = .ok (.iconst 0, 1) := by decide +kernel
theorem dX1_end_24 : decode cX1_end 24 = .ok (.iadd, 1) := by decide +kernel
theorem dX1_end_25 : decode cX1_end 25 = .ok (.putfield 70, 3) := by decide +kernel
theorem dX1_end_28 : decode cX1_end 28 = .ok (.aload_n 0, 1) := by decide +kernel
theorem dX1_end_29 : decode cX1_end 29 = .ok (.iconst (-1), 1) := by decide +kernel
theorem dX1_end_30 : decode cX1_end 30 = .ok (.putfield 18, 3) := by decide +kernel
theorem dX1_end_33 : decode cX1_end 33 = .ok (.aload_n 0, 1) := by decide +kernel
theorem dX1_end_34 : decode cX1_end 34 = .ok (.iconst 0, 1) := by decide +kernel
theorem dX1_end_35 : decode cX1_end 35 = .ok (.putfield 53, 3) := by decide +kernel
theorem dX1_end_38 : decode cX1_end 38 = .ok (.return_, 1) := by decide +kernel
def f_X1_end_b24 (σ : St) (o0 : Nat) (s0 : Int32) (s1 : Int32) : Option St := bnd (sI (sI (sI σ 54 o0 (s1 + s0)) 52 o0 (-1 : Int32)) 56 o0 (0 : Int32)) (fun σ2 => some σ2)
def f_X1_end (σ : St) (i0 : Nat) (p1 : Int32) : Option St := if p1 = 0 then (f_X1_end_b24 (sI σ 53 i0 ((σ.1 53 i0) + (1 : Int32))) i0 (0 : Int32) ((sI σ 53 i0 ((σ.1 53 i0) + (1 : Int32))).1 54 i0)) else (f_X1_end_b24 (sI σ 53 i0 ((σ.1 53 i0) + (1 : Int32))) i0 (1 : Int32) ((sI σ 53 i0 ((σ.1 53 i0) + (1 : Int32))).1 54 i0))
set_option maxHeartbeats 4000000 in
set_option maxRecDepth 100000 in
theorem w_X1_end_b24 {p : Program} {l : Launch} {e : Env} {s : State} {m : MethodId} {args : Array Value} {below : List Frame} {meth : Method} {c : Code} {g : va_G} {ts : ClassId × ClassId × ClassId} {A : Nat → Prop} {Q : State → Prop} {a : Nat → Nat} {σ' : St} (C : FX p s m args meth c RX1 cX1_end 2 g ts A) (hQ : RetV p l e (rk 0 0) s m args below meth c cX1_end g (WC ts a) A σ' Q) : ∀ (σ : St) (o0 : Nat) (s0 : Int32) (s1 : Int32) (H : Heap) (locs : List Loc) (ls : Array Slot), f_X1_end_b24 σ o0 s0 s1 = some σ' → va_P g classes (WC ts a σ) H → va_D A (WC ts a σ) → va_S A s.heap H locs → o0 < 2 → lv_has ls 2 [(0, .ref (a (30 + 3 * o0)))] → W p l e (rk 0 0) s m args below meth c H locs 0 0 Q (F0 m 24 ls [.int s0, .int s1, .ref (a (30 + 3 * o0))]) := by
  have hx := C.1
  have hb := C.2.1
  have hown := C.2.2.2.1
  have hts := C.2.2.2.2.1
  intro σ o0 s0 s1 H locs ls hf hP hD hS ho0 hl
  rw [f_X1_end_b24] at hf
  refine lv_iadd hx hb dX1_end_24 ?_
  refine S_X1_rightCalls ho0 C hP hD hS q_307 dX1_end_25 (fun H locs hP hD hS => ?_)
  refine lv_aload_n hx hb dX1_end_28 rfl (lv_at hl 0 rfl) ?_
  refine lv_iconst (v := -1) hx hb dX1_end_29 (by decide) ?_
  refine S_X1_name ho0 C hP hD hS q_303 dX1_end_30 (fun H locs hP hD hS => ?_)
  refine lv_aload_n hx hb dX1_end_33 rfl (lv_at hl 0 rfl) ?_
  refine lv_iconst (v := 0) hx hb dX1_end_34 (by decide) ?_
  refine S_X1_spoken ho0 C hP hD hS q_311 dX1_end_35 (fun H locs hP hD hS => ?_)
  refine nameS hP hD hf (fun σ2 hP hD hf => ?_)
  exact retV hQ hf dX1_end_38 hP hD hS
set_option maxHeartbeats 4000000 in
set_option maxRecDepth 100000 in
theorem c_X1_end {l : Launch} {g : va_G} {ts : ClassId × ClassId × ClassId} {a : Nat → Nat} {σ : St} {i0 : Nat} {p1 : Int32} {σ' : St} (hi0 : i0 < 2) (hf : f_X1_end σ i0 p1 = some σ') : ConV l g ts (WC ts a) yX1_end cX1_end 2 none (rk 0 0) σ [.ref (a (30 + 3 * i0)), .int p1] σ' := by
  refine ConV_mk rfl rfl (by decide) (Nat.le_of_ble_eq_true rfl) ?_
  intro p e s m below meth c A Q ls C hQ hP hD hS hl
  have C : FX p s m _ meth c RX1 cX1_end 2 g ts A := C
  have hx := C.1
  have hb := C.2.1
  have hown := C.2.2.2.1
  have hts := C.2.2.2.2.1
  have hl : lv_has ls 2 [(0, .ref (a (30 + 3 * i0))), (1, .int p1)] := hl
  rw [f_X1_end] at hf
  refine lv_aload_n hx hb dX1_end_0 rfl (lv_at hl 0 rfl) ?_
  refine lv_dup hx hb dX1_end_1 rfl ?_
  refine G_X1_calls hi0 C hP q_305 dX1_end_2 ?_
  refine lv_iconst (v := 1) hx hb dX1_end_5 (by decide) ?_
  refine lv_iadd hx hb dX1_end_6 ?_
  refine S_X1_calls hi0 C hP hD hS q_305 dX1_end_7 (fun H locs hP hD hS => ?_)
  refine lv_aload_n hx hb dX1_end_10 rfl (lv_at hl 0 rfl) ?_
  refine lv_dup hx hb dX1_end_11 rfl ?_
  refine G_X1_rightCalls hi0 C hP q_307 dX1_end_12 ?_
  refine lv_iload_n hx hb dX1_end_15 rfl (lv_at hl 1 rfl) ?_
  refine lv_if_eq (tgt := 23) hx hb dX1_end_16 (by decide) (fun c1 => ?_) (fun c1 => ?_)
  · replace hf := ipos c1 hf
    refine lv_iconst (v := 0) hx hb dX1_end_23 (by decide) ?_
    exact w_X1_end_b24 C hQ _ _ _ _ _ _ _ hf hP hD hS hi0 (lv_sub hl [0] rfl)
  · replace hf := ineg c1 hf
    refine lv_iconst (v := 1) hx hb dX1_end_19 (by decide) ?_
    refine lv_goto (tgt := 24) hx hb dX1_end_20 (by decide) ?_
    exact w_X1_end_b24 C hQ _ _ _ _ _ _ _ hf hP hD hS hi0 (lv_sub hl [0] rfl)
theorem dX1_become_0 : decode cX1_become 0 = .ok (.aload_n 1, 1) := by decide +kernel
theorem dX1_become_1 : decode cX1_become 1 = .ok (.getfield 9, 3) := by decide +kernel
theorem dX1_become_4 : decode cX1_become 4 = .ok (.iconst 0, 1) := by decide +kernel
theorem dX1_become_5 : decode cX1_become 5 = .ok (.aload_n 0, 1) := by decide +kernel
theorem dX1_become_6 : decode cX1_become 6 = .ok (.getfield 9, 3) := by decide +kernel
theorem dX1_become_9 : decode cX1_become 9 = .ok (.iconst 0, 1) := by decide +kernel
theorem dX1_become_10 : decode cX1_become 10 = .ok (.bipush 6, 2) := by decide +kernel
theorem dX1_become_12 : decode cX1_become 12 = .ok (.invokestatic 73, 3) := by decide +kernel
theorem dX1_become_15 : decode cX1_become 15 = .ok (.aload_n 1, 1) := by decide +kernel
theorem dX1_become_16 : decode cX1_become 16 = .ok (.getfield 15, 3) := by decide +kernel
theorem dX1_become_19 : decode cX1_become 19 = .ok (.iconst 0, 1) := by decide +kernel
theorem dX1_become_20 : decode cX1_become 20 = .ok (.aload_n 0, 1) := by decide +kernel
theorem dX1_become_21 : decode cX1_become 21 = .ok (.getfield 15, 3) := by decide +kernel
theorem dX1_become_24 : decode cX1_become 24 = .ok (.iconst 0, 1) := by decide +kernel
theorem dX1_become_25 : decode cX1_become 25 = .ok (.bipush 6, 2) := by decide +kernel
theorem dX1_become_27 : decode cX1_become 27 = .ok (.invokestatic 73, 3) := by decide +kernel
theorem dX1_become_30 : decode cX1_become 30 = .ok (.aload_n 0, 1) := by decide +kernel
theorem dX1_become_31 : decode cX1_become 31 = .ok (.aload_n 1, 1) := by decide +kernel
theorem dX1_become_32 : decode cX1_become 32 = .ok (.getfield 18, 3) := by decide +kernel
theorem dX1_become_35 : decode cX1_become 35 = .ok (.putfield 18, 3) := by decide +kernel
theorem dX1_become_38 : decode cX1_become 38 = .ok (.aload_n 0, 1) := by decide +kernel
theorem dX1_become_39 : decode cX1_become 39 = .ok (.aload_n 1, 1) := by decide +kernel
theorem dX1_become_40 : decode cX1_become 40 = .ok (.getfield 67, 3) := by decide +kernel
theorem dX1_become_43 : decode cX1_become 43 = .ok (.putfield 67, 3) := by decide +kernel
theorem dX1_become_46 : decode cX1_become 46 = .ok (.aload_n 0, 1) := by decide +kernel
theorem dX1_become_47 : decode cX1_become 47 = .ok (.aload_n 1, 1) := by decide +kernel
theorem dX1_become_48 : decode cX1_become 48 = .ok (.getfield 70, 3) := by decide +kernel
theorem dX1_become_51 : decode cX1_become 51 = .ok (.putfield 70, 3) := by decide +kernel
theorem dX1_become_54 : decode cX1_become 54 = .ok (.aload_n 0, 1) := by decide +kernel
theorem dX1_become_55 : decode cX1_become 55 = .ok (.aload_n 1, 1) := by decide +kernel
theorem dX1_become_56 : decode cX1_become 56 = .ok (.getfield 56, 3) := by decide +kernel
theorem dX1_become_59 : decode cX1_become 59 = .ok (.putfield 56, 3) := by decide +kernel
theorem dX1_become_62 : decode cX1_become 62 = .ok (.aload_n 0, 1) := by decide +kernel
theorem dX1_become_63 : decode cX1_become 63 = .ok (.aload_n 1, 1) := by decide +kernel
theorem dX1_become_64 : decode cX1_become 64 = .ok (.getfield 53, 3) := by decide +kernel
theorem dX1_become_67 : decode cX1_become 67 = .ok (.putfield 53, 3) := by decide +kernel
theorem dX1_become_70 : decode cX1_become 70 = .ok (.aload_n 0, 1) := by decide +kernel
theorem dX1_become_71 : decode cX1_become 71 = .ok (.aload_n 1, 1) := by decide +kernel
theorem dX1_become_72 : decode cX1_become 72 = .ok (.getfield 22, 3) := by decide +kernel
theorem dX1_become_75 : decode cX1_become 75 = .ok (.putfield 22, 3) := by decide +kernel
theorem dX1_become_78 : decode cX1_become 78 = .ok (.return_, 1) := by decide +kernel
def f_X1_become (σ : St) (i0 : Nat) (i1 : Nat) : Option St := bnd (sA σ 50 i0 (va_cpy (σ.2.2.1 50 i1) (σ.2.2.1 50 i0) ((0 : Int32).toNatClampNeg) ((0 : Int32).toNatClampNeg) ((6 : Int32).toNatClampNeg))) (fun σ1 => bnd (sA σ1 51 i0 (va_cpy (σ1.2.2.1 51 i1) (σ1.2.2.1 51 i0) ((0 : Int32).toNatClampNeg) ((0 : Int32).toNatClampNeg) ((6 : Int32).toNatClampNeg))) (fun σ2 => bnd (sI (sI σ2 52 i0 (σ2.1 52 i1)) 53 i0 ((sI σ2 52 i0 (σ2.1 52 i1)).1 53 i1)) (fun σ3 => bnd (sI (sI σ3 54 i0 (σ3.1 54 i1)) 55 i0 ((sI σ3 54 i0 (σ3.1 54 i1)).1 55 i1)) (fun σ4 => bnd (sI (sI σ4 56 i0 (σ4.1 56 i1)) 57 i0 ((sI σ4 56 i0 (σ4.1 56 i1)).1 57 i1)) (fun σ5 => some σ5)))))
set_option maxHeartbeats 4000000 in
set_option maxRecDepth 100000 in
theorem c_X1_become {l : Launch} {g : va_G} {ts : ClassId × ClassId × ClassId} {a : Nat → Nat} {σ : St} {i0 : Nat} {i1 : Nat} {σ' : St} (hi0 : i0 < 2) (hi1 : i1 < 2) (hf : f_X1_become σ i0 i1 = some σ') : ConV l g ts (WC ts a) yX1_become cX1_become 2 none (rk 1 48) σ [.ref (a (30 + 3 * i0)), .ref (a (30 + 3 * i1))] σ' := by
  refine ConV_mk rfl rfl (by decide) (Nat.le_of_ble_eq_true rfl) ?_
  intro p e s m below meth c A Q ls C hQ hP hD hS hl
  have C : FX p s m _ meth c RX1 cX1_become 2 g ts A := C
  have hx := C.1
  have hb := C.2.1
  have hown := C.2.2.2.1
  have hts := C.2.2.2.2.1
  have hl : lv_has ls 2 [(0, .ref (a (30 + 3 * i0))), (1, .ref (a (30 + 3 * i1)))] := hl
  rw [f_X1_become] at hf
  refine lv_aload_n hx hb dX1_become_0 rfl (lv_at hl 1 rfl) ?_
  refine G_X1_said hi1 C hP q_299 dX1_become_1 ?_
  refine lv_iconst (v := 0) hx hb dX1_become_4 (by decide) ?_
  refine lv_aload_n hx hb dX1_become_5 rfl (lv_at hl 0 rfl) ?_
  refine G_X1_said hi0 C hP q_299 dX1_become_6 ?_
  refine lv_iconst (v := 0) hx hb dX1_become_9 (by decide) ?_
  refine lv_bipush (v := 6) hx hb dX1_become_10 (by decide) ?_
  refine va_copyi (D := g) hx hb (C.2.2.1.trans hl.1.symm) hown (hts _ q_956) (hts _ q_958) (hts _ q_957) (hts _ q_78) C.2.2.2.2.2.2.1 hP hD hS (30 + 3 * i1 + 1) (30 + 3 * i0 + 1) 0 0 (arr_X1_said hi1) (arr_X1_said hi0) rfl rfl rfl (by decide) (by decide) (by decide) (by decide) (by decide) (fun _ _ => rfl) (Nat.le_of_ble_eq_true rfl) (Nat.le_of_ble_eq_true rfl) dX1_become_12 (fun H locs h1 h2 hS => ?_)
  rw [aput_X1_said hi0] at h1 h2
  have hP := h1
  have hD := h2
  refine nameS hP hD hf (fun σ1 hP hD hf => ?_)
  refine lv_aload_n hx hb dX1_become_15 rfl (lv_at hl 1 rfl) ?_
  refine G_X1_noted hi1 C hP q_301 dX1_become_16 ?_
  refine lv_iconst (v := 0) hx hb dX1_become_19 (by decide) ?_
  refine lv_aload_n hx hb dX1_become_20 rfl (lv_at hl 0 rfl) ?_
  refine G_X1_noted hi0 C hP q_301 dX1_become_21 ?_
  refine lv_iconst (v := 0) hx hb dX1_become_24 (by decide) ?_
  refine lv_bipush (v := 6) hx hb dX1_become_25 (by decide) ?_
  refine va_copyi (D := g) hx hb (C.2.2.1.trans hl.1.symm) hown (hts _ q_956) (hts _ q_958) (hts _ q_957) (hts _ q_78) C.2.2.2.2.2.2.1 hP hD hS (30 + 3 * i1 + 2) (30 + 3 * i0 + 2) 0 0 (arr_X1_noted hi1) (arr_X1_noted hi0) rfl rfl rfl (by decide) (by decide) (by decide) (by decide) (by decide) (fun _ _ => rfl) (Nat.le_of_ble_eq_true rfl) (Nat.le_of_ble_eq_true rfl) dX1_become_27 (fun H locs h1 h2 hS => ?_)
  rw [aput_X1_noted hi0] at h1 h2
  have hP := h1
  have hD := h2
  refine nameS hP hD hf (fun σ2 hP hD hf => ?_)
  refine lv_aload_n hx hb dX1_become_30 rfl (lv_at hl 0 rfl) ?_
  refine lv_aload_n hx hb dX1_become_31 rfl (lv_at hl 1 rfl) ?_
  refine G_X1_name hi1 C hP q_303 dX1_become_32 ?_
  refine S_X1_name hi0 C hP hD hS q_303 dX1_become_35 (fun H locs hP hD hS => ?_)
  refine lv_aload_n hx hb dX1_become_38 rfl (lv_at hl 0 rfl) ?_
  refine lv_aload_n hx hb dX1_become_39 rfl (lv_at hl 1 rfl) ?_
  refine G_X1_calls hi1 C hP q_305 dX1_become_40 ?_
  refine S_X1_calls hi0 C hP hD hS q_305 dX1_become_43 (fun H locs hP hD hS => ?_)
  refine nameS hP hD hf (fun σ3 hP hD hf => ?_)
  refine lv_aload_n hx hb dX1_become_46 rfl (lv_at hl 0 rfl) ?_
  refine lv_aload_n hx hb dX1_become_47 rfl (lv_at hl 1 rfl) ?_
  refine G_X1_rightCalls hi1 C hP q_307 dX1_become_48 ?_
  refine S_X1_rightCalls hi0 C hP hD hS q_307 dX1_become_51 (fun H locs hP hD hS => ?_)
  refine lv_aload_n hx hb dX1_become_54 rfl (lv_at hl 0 rfl) ?_
  refine lv_aload_n hx hb dX1_become_55 rfl (lv_at hl 1 rfl) ?_
  refine G_X1_spent hi1 C hP q_309 dX1_become_56 ?_
  refine S_X1_spent hi0 C hP hD hS q_309 dX1_become_59 (fun H locs hP hD hS => ?_)
  refine nameS hP hD hf (fun σ4 hP hD hf => ?_)
  refine lv_aload_n hx hb dX1_become_62 rfl (lv_at hl 0 rfl) ?_
  refine lv_aload_n hx hb dX1_become_63 rfl (lv_at hl 1 rfl) ?_
  refine G_X1_spoken hi1 C hP q_311 dX1_become_64 ?_
  refine S_X1_spoken hi0 C hP hD hS q_311 dX1_become_67 (fun H locs hP hD hS => ?_)
  refine lv_aload_n hx hb dX1_become_70 rfl (lv_at hl 0 rfl) ?_
  refine lv_aload_n hx hb dX1_become_71 rfl (lv_at hl 1 rfl) ?_
  refine G_X1_z hi1 C hP q_313 dX1_become_72 ?_
  refine S_X1_z hi0 C hP hD hS q_313 dX1_become_75 (fun H locs hP hD hS => ?_)
  refine nameS hP hD hf (fun σ5 hP hD hf => ?_)
  exact retV hQ hf dX1_become_78 hP hD hS
