theorem mv_X7_take : MV yX7_take cX7_take 2 (some .boolean) 1 := ⟨q_513, q_514, q_66, q_515, by decide +kernel, by decide +kernel, by decide +kernel⟩
theorem mv_X7_isAt : MV yX7_isAt cX7_isAt 2 (some .boolean) 1 := ⟨q_644, q_9, q_66, q_645, by decide +kernel, by decide +kernel, by decide +kernel⟩
theorem mv_X7_readNumber : MV yX7_readNumber cX7_readNumber 3 none 0 := ⟨q_545, q_7, q_66, q_546, by decide +kernel, by decide +kernel, by decide +kernel⟩
theorem dX7_take_0 : decode cX7_take 0 = .ok (.aload_n 0, 1) := by decide +kernel
theorem dX7_take_1 : decode cX7_take 1 = .ok (.getfield 13, 3) := by decide +kernel
theorem dX7_take_4 : decode cX7_take 4 = .ok (.bipush 120, 2) := by decide +kernel
theorem dX7_take_6 : decode cX7_take 6 = .ok (.if_icmp .lt 5, 3) := by decide +kernel
theorem dX7_take_9 : decode cX7_take 9 = .ok (.iconst 0, 1) := by decide +kernel
theorem dX7_take_10 : decode cX7_take 10 = .ok (.ireturn, 1) := by decide +kernel
theorem dX7_take_11 : decode cX7_take 11 = .ok (.aload_n 0, 1) := by decide +kernel
theorem dX7_take_12 : decode cX7_take 12 = .ok (.getfield 9, 3) := by decide +kernel
theorem dX7_take_15 : decode cX7_take 15 = .ok (.aload_n 0, 1) := by decide +kernel
theorem dX7_take_16 : decode cX7_take 16 = .ok (.getfield 13, 3) := by decide +kernel
theorem dX7_take_19 : decode cX7_take 19 = .ok (.iload_n 1, 1) := by decide +kernel
theorem dX7_take_20 : decode cX7_take 20 = .ok (.iastore, 1) := by decide +kernel
theorem dX7_take_21 : decode cX7_take 21 = .ok (.aload_n 0, 1) := by decide +kernel
theorem dX7_take_22 : decode cX7_take 22 = .ok (.dup, 1) := by decide +kernel
theorem dX7_take_23 : decode cX7_take 23 = .ok (.getfield 13, 3) := by decide +kernel
theorem dX7_take_26 : decode cX7_take 26 = .ok (.iconst 1, 1) := by decide +kernel
theorem dX7_take_27 : decode cX7_take 27 = .ok (.iadd, 1) := by decide +kernel
theorem dX7_take_28 : decode cX7_take 28 = .ok (.putfield 13, 3) := by decide +kernel
theorem dX7_take_31 : decode cX7_take 31 = .ok (.iconst 1, 1) := by decide +kernel
theorem dX7_take_32 : decode cX7_take 32 = .ok (.ireturn, 1) := by decide +kernel
def f_X7_take0 (σ : St) (p1 : Int32) : Option (Int32 × St) := if σ.1 351 0 < (120 : Int32) then (chk (σ.1 351 0 < 0 ∨ 120 ≤ (σ.1 351 0).toNatClampNeg) (bnd (sA σ 350 0 (upd (σ.2.2.1 350 0) (σ.1 351 0).toNatClampNeg p1)) (fun σ3 => some ((1 : Int32), sI σ3 351 0 ((σ3.1 351 0) + (1 : Int32)))))) else (some ((0 : Int32), σ))
def f_X7_take (σ : St) (p1 : Int32) : Option (Int32 × St) := chkB (f_X7_take0 σ p1)
set_option maxHeartbeats 4000000 in
set_option maxRecDepth 100000 in
theorem c_X7_take {l : Launch} {g : va_G} {ts : ClassId × ClassId × ClassId} {a : Nat → Nat} {σ : St} {p1 : Int32} {r : Int32} {σ' : St} (hf : f_X7_take σ p1 = some (r, σ')) : ConI l g ts (WC ts a) yX7_take cX7_take 2 (some .boolean) (rk 0 0) σ [.ref (a 20), .int p1] r σ' := by
  rw [f_X7_take] at hf
  obtain ⟨hf, hn⟩ := chkB_some hf
  refine ConI_mk .boolean rfl hn rfl rfl (by decide) (Nat.le_of_ble_eq_true rfl) ?_
  intro p e s m below meth c A Q ls C hQ hP hD hS hl
  have C : FX p s m _ meth c RX7 cX7_take 2 g ts A := C
  have hx := C.1
  have hb := C.2.1
  have hown := C.2.2.2.1
  have hts := C.2.2.2.2.1
  have hl : lv_has ls 2 [(0, .ref (a 20)), (1, .int p1)] := hl
  rw [f_X7_take0] at hf
  refine lv_aload_n hx hb dX7_take_0 rfl (lv_at hl 0 rfl) ?_
  refine G_X7_length C hP q_246 dX7_take_1 ?_
  refine lv_bipush (v := 120) hx hb dX7_take_4 (by decide) ?_
  refine lv_icmp_lt (tgt := 11) hx hb dX7_take_6 (by decide) (fun c1 => ?_) (fun c1 => ?_)
  · replace hf := ipos c1 hf
    refine lv_aload_n hx hb dX7_take_11 rfl (lv_at hl 0 rfl) ?_
    refine G_X7_tape C hP q_245 dX7_take_12 ?_
    refine lv_aload_n hx hb dX7_take_15 rfl (lv_at hl 0 rfl) ?_
    refine G_X7_length C hP q_246 dX7_take_16 ?_
    refine lv_iload_n hx hb dX7_take_19 rfl (lv_at hl 1 rfl) ?_
    obtain ⟨h2, hf⟩ := chk_some hf
    refine AS_X7_tape C hP hD hS h2 dX7_take_20 (fun H locs hP hD hS => ?_)
    refine nameS hP hD hf (fun σ3 hP hD hf => ?_)
    refine lv_aload_n hx hb dX7_take_21 rfl (lv_at hl 0 rfl) ?_
    refine lv_dup hx hb dX7_take_22 rfl ?_
    refine G_X7_length C hP q_246 dX7_take_23 ?_
    refine lv_iconst (v := 1) hx hb dX7_take_26 (by decide) ?_
    refine lv_iadd hx hb dX7_take_27 ?_
    refine S_X7_length C hP hD hS q_246 dX7_take_28 (fun H locs hP hD hS => ?_)
    refine lv_iconst (v := 1) hx hb dX7_take_31 (by decide) ?_
    exact retI hQ hf dX7_take_32 hP hD hS
  · replace hf := ineg c1 hf
    refine lv_iconst (v := 0) hx hb dX7_take_9 (by decide) ?_
    exact retI hQ hf dX7_take_10 hP hD hS
theorem dX7_isAt_0 : decode cX7_isAt 0 = .ok (.aload_n 0, 1) := by decide +kernel
theorem dX7_isAt_1 : decode cX7_isAt 1 = .ok (.getfield 26, 3) := by decide +kernel
theorem dX7_isAt_4 : decode cX7_isAt 4 = .ok (.aload_n 0, 1) := by decide +kernel
theorem dX7_isAt_5 : decode cX7_isAt 5 = .ok (.getfield 13, 3) := by decide +kernel
theorem dX7_isAt_8 : decode cX7_isAt 8 = .ok (.if_icmp .ge 20, 3) := by decide +kernel
theorem dX7_isAt_11 : decode cX7_isAt 11 = .ok (.aload_n 0, 1) := by decide +kernel
theorem dX7_isAt_12 : decode cX7_isAt 12 = .ok (.getfield 9, 3) := by decide +kernel
theorem dX7_isAt_15 : decode cX7_isAt 15 = .ok (.aload_n 0, 1) := by decide +kernel
theorem dX7_isAt_16 : decode cX7_isAt 16 = .ok (.getfield 26, 3) := by decide +kernel
theorem dX7_isAt_19 : decode cX7_isAt 19 = .ok (.iaload, 1) := by decide +kernel
theorem dX7_isAt_20 : decode cX7_isAt 20 = .ok (.iload_n 1, 1) := by decide +kernel
theorem dX7_isAt_21 : decode cX7_isAt 21 = .ok (.if_icmp .ne 7, 3) := by decide +kernel
theorem dX7_isAt_24 : decode cX7_isAt 24 = .ok (.iconst 1, 1) := by decide +kernel
theorem dX7_isAt_25 : decode cX7_isAt 25 = .ok (.goto 4, 3) := by decide +kernel
theorem dX7_isAt_28 : decode cX7_isAt 28 = .ok (.iconst 0, 1) := by decide +kernel
theorem dX7_isAt_29 : decode cX7_isAt 29 = .ok (.ireturn, 1) := by decide +kernel
def f_X7_isAt0 (σ : St) (p1 : Int32) : Option (Int32 × St) := if σ.1 351 0 ≤ σ.1 352 0 then (some ((0 : Int32), σ)) else (chk (σ.1 352 0 < 0 ∨ 120 ≤ (σ.1 352 0).toNatClampNeg) (if σ.2.2.1 350 0 (σ.1 352 0).toNatClampNeg = p1 then (some ((1 : Int32), σ)) else (some ((0 : Int32), σ))))
def f_X7_isAt (σ : St) (p1 : Int32) : Option (Int32 × St) := chkB (f_X7_isAt0 σ p1)
set_option maxHeartbeats 4000000 in
set_option maxRecDepth 100000 in
theorem c_X7_isAt {l : Launch} {g : va_G} {ts : ClassId × ClassId × ClassId} {a : Nat → Nat} {σ : St} {p1 : Int32} {r : Int32} {σ' : St} (hf : f_X7_isAt σ p1 = some (r, σ')) : ConI l g ts (WC ts a) yX7_isAt cX7_isAt 2 (some .boolean) (rk 0 0) σ [.ref (a 20), .int p1] r σ' := by
  rw [f_X7_isAt] at hf
  obtain ⟨hf, hn⟩ := chkB_some hf
  refine ConI_mk .boolean rfl hn rfl rfl (by decide) (Nat.le_of_ble_eq_true rfl) ?_
  intro p e s m below meth c A Q ls C hQ hP hD hS hl
  have C : FX p s m _ meth c RX7 cX7_isAt 2 g ts A := C
  have hx := C.1
  have hb := C.2.1
  have hown := C.2.2.2.1
  have hts := C.2.2.2.2.1
  have hl : lv_has ls 2 [(0, .ref (a 20)), (1, .int p1)] := hl
  rw [f_X7_isAt0] at hf
  refine lv_aload_n hx hb dX7_isAt_0 rfl (lv_at hl 0 rfl) ?_
  refine G_X7_at C hP q_248 dX7_isAt_1 ?_
  refine lv_aload_n hx hb dX7_isAt_4 rfl (lv_at hl 0 rfl) ?_
  refine G_X7_length C hP q_246 dX7_isAt_5 ?_
  refine lv_icmp_ge (tgt := 28) hx hb dX7_isAt_8 (by decide) (fun c1 => ?_) (fun c1 => ?_)
  · replace hf := ipos c1 hf
    refine lv_iconst (v := 0) hx hb dX7_isAt_28 (by decide) ?_
    exact retI hQ hf dX7_isAt_29 hP hD hS
  · replace hf := ineg c1 hf
    refine lv_aload_n hx hb dX7_isAt_11 rfl (lv_at hl 0 rfl) ?_
    refine G_X7_tape C hP q_245 dX7_isAt_12 ?_
    refine lv_aload_n hx hb dX7_isAt_15 rfl (lv_at hl 0 rfl) ?_
    refine G_X7_at C hP q_248 dX7_isAt_16 ?_
    obtain ⟨h2, hf⟩ := chk_some hf
    refine AL_X7_tape C hP h2 dX7_isAt_19 ?_
    refine lv_iload_n hx hb dX7_isAt_20 rfl (lv_at hl 1 rfl) ?_
    refine lv_icmp_ne (tgt := 28) hx hb dX7_isAt_21 (by decide) (fun c3 => ?_) (fun c3 => ?_)
    · replace hf := ineg c3 hf
      refine lv_iconst (v := 0) hx hb dX7_isAt_28 (by decide) ?_
      exact retI hQ hf dX7_isAt_29 hP hD hS
    · replace hf := ipos c3 hf
      refine lv_iconst (v := 1) hx hb dX7_isAt_24 (by decide) ?_
      refine lv_goto (tgt := 29) hx hb dX7_isAt_25 (by decide) ?_
      exact retI hQ hf dX7_isAt_29 hP hD hS
theorem dX7_readNumber_0 : decode cX7_readNumber 0 = .ok (.iconst 0, 1) := by decide +kernel
theorem dX7_readNumber_1 : decode cX7_readNumber 1 = .ok (.istore_n 1, 1) := by decide +kernel
theorem dX7_readNumber_2 : decode cX7_readNumber 2 = .ok (.iconst 0, 1) := by decide +kernel
theorem dX7_readNumber_3 : decode cX7_readNumber 3 = .ok (.istore_n 2, 1) := by decide +kernel
theorem dX7_readNumber_4 : decode cX7_readNumber 4 = .ok (.iload_n 2, 1) := by decide +kernel
theorem dX7_readNumber_5 : decode cX7_readNumber 5 = .ok (.iconst 4, 1) := by decide +kernel
theorem dX7_readNumber_6 : decode cX7_readNumber 6 = .ok (.if_icmp .ge 63, 3) := by decide +kernel
theorem dX7_readNumber_9 : decode cX7_readNumber 9 = .ok (.aload_n 0, 1) := by decide +kernel
theorem dX7_readNumber_10 : decode cX7_readNumber 10 = .ok (.getfield 26, 3) := by decide +kernel
theorem dX7_readNumber_13 : decode cX7_readNumber 13 = .ok (.aload_n 0, 1) := by decide +kernel
theorem dX7_readNumber_14 : decode cX7_readNumber 14 = .ok (.getfield 13, 3) := by decide +kernel
theorem dX7_readNumber_17 : decode cX7_readNumber 17 = .ok (.if_icmp .ge 52, 3) := by decide +kernel
theorem dX7_readNumber_20 : decode cX7_readNumber 20 = .ok (.aload_n 0, 1) := by decide +kernel
theorem dX7_readNumber_21 : decode cX7_readNumber 21 = .ok (.getfield 9, 3) := by decide +kernel
theorem dX7_readNumber_24 : decode cX7_readNumber 24 = .ok (.aload_n 0, 1) := by decide +kernel
theorem dX7_readNumber_25 : decode cX7_readNumber 25 = .ok (.getfield 26, 3) := by decide +kernel
theorem dX7_readNumber_28 : decode cX7_readNumber 28 = .ok (.iaload, 1) := by decide +kernel
theorem dX7_readNumber_29 : decode cX7_readNumber 29 = .ok (.invokestatic 53, 3) := by decide +kernel
theorem dX7_readNumber_32 : decode cX7_readNumber 32 = .ok (.ifCond .eq 37, 3) := by decide +kernel
theorem dX7_readNumber_35 : decode cX7_readNumber 35 = .ok (.iload_n 1, 1) := by decide +kernel
theorem dX7_readNumber_36 : decode cX7_readNumber 36 = .ok (.bipush 10, 2) := by decide +kernel
theorem dX7_readNumber_38 : decode cX7_readNumber 38 = .ok (.imul, 1) := by decide +kernel
theorem dX7_readNumber_39 : decode cX7_readNumber 39 = .ok (.aload_n 0, 1) := by decide +kernel
theorem dX7_readNumber_40 : decode cX7_readNumber 40 = .ok (.getfield 9, 3) := by decide +kernel
theorem dX7_readNumber_43 : decode cX7_readNumber 43 = .ok (.aload_n 0, 1) := by decide +kernel
theorem dX7_readNumber_44 : decode cX7_readNumber 44 = .ok (.getfield 26, 3) := by decide +kernel
theorem dX7_readNumber_47 : decode cX7_readNumber 47 = .ok (.iaload, 1) := by decide +kernel
theorem dX7_readNumber_48 : decode cX7_readNumber 48 = .ok (.iadd, 1) := by decide +kernel
theorem dX7_readNumber_49 : decode cX7_readNumber 49 = .ok (.bipush 48, 2) := by decide +kernel
theorem dX7_readNumber_51 : decode cX7_readNumber 51 = .ok (.isub, 1) := by decide +kernel
theorem dX7_readNumber_52 : decode cX7_readNumber 52 = .ok (.istore_n 1, 1) := by decide +kernel
theorem dX7_readNumber_53 : decode cX7_readNumber 53 = .ok (.aload_n 0, 1) := by decide +kernel
theorem dX7_readNumber_54 : decode cX7_readNumber 54 = .ok (.dup, 1) := by decide +kernel
theorem dX7_readNumber_55 : decode cX7_readNumber 55 = .ok (.getfield 26, 3) := by decide +kernel
theorem dX7_readNumber_58 : decode cX7_readNumber 58 = .ok (.iconst 1, 1) := by decide +kernel
theorem dX7_readNumber_59 : decode cX7_readNumber 59 = .ok (.iadd, 1) := by decide +kernel
theorem dX7_readNumber_60 : decode cX7_readNumber 60 = .ok (.putfield 26, 3) := by decide +kernel
theorem dX7_readNumber_63 : decode cX7_readNumber 63 = .ok (.iinc 2 1, 3) := by decide +kernel
theorem dX7_readNumber_66 : decode cX7_readNumber 66 = .ok (.goto (-62), 3) := by decide +kernel
theorem dX7_readNumber_69 : decode cX7_readNumber 69 = .ok (.aload_n 0, 1) := by decide +kernel
theorem dX7_readNumber_70 : decode cX7_readNumber 70 = .ok (.getfield 17, 3) := by decide +kernel
theorem dX7_readNumber_73 : decode cX7_readNumber 73 = .ok (.iload_n 1, 1) := by decide +kernel
theorem dX7_readNumber_74 : decode cX7_readNumber 74 = .ok (.invokevirtual 41, 3) := by decide +kernel
theorem dX7_readNumber_77 : decode cX7_readNumber 77 = .ok (.return_, 1) := by decide +kernel
def f_X7_readNumber_b69 (σ : St) (x1 : Int32) : Option St := derefL σ (σ.2.2.2.2 353) (fun j10 => bnd1 (f_X4_emit σ j10 x1) (fun σ12 => some σ12))
def f_X7_readNumber_b4 : Nat → St → Int32 → Int32 → Option St
  | 0, _, _, _ => none
  | n + 1, σ, x1, x2 => if (4 : Int32) ≤ x2 then (f_X7_readNumber_b69 σ x1) else (if σ.1 351 0 ≤ σ.1 352 0 then (f_X7_readNumber_b69 σ x1) else (chk (σ.1 352 0 < 0 ∨ 120 ≤ (σ.1 352 0).toNatClampNeg) (bnd1 (f_X7_isDigit (σ.2.2.1 350 0 (σ.1 352 0).toNatClampNeg)) (fun r5 => if r5 = 0 then (f_X7_readNumber_b69 σ x1) else (chk (σ.1 352 0 < 0 ∨ 120 ≤ (σ.1 352 0).toNatClampNeg) (bnd (((x1 * (10 : Int32)) + (σ.2.2.1 350 0 (σ.1 352 0).toNatClampNeg)) - (48 : Int32)) (fun v8 => bnd (x2 + 1) (fun v9 => f_X7_readNumber_b4 n (sI σ 352 0 ((σ.1 352 0) + (1 : Int32))) v8 v9))))))))
def f_X7_readNumber (σ : St) : Option St := f_X7_readNumber_b4 256 σ (0 : Int32) (0 : Int32)
set_option maxHeartbeats 4000000 in
set_option maxRecDepth 100000 in
theorem w_X7_readNumber_b69 {p : Program} {l : Launch} {e : Env} {s : State} {m : MethodId} {args : Array Value} {below : List Frame} {meth : Method} {c : Code} {g : va_G} {ts : ClassId × ClassId × ClassId} {A : Nat → Prop} {Q : State → Prop} {a : Nat → Nat} {σ' : St} (C : FX p s m args meth c RX7 cX7_readNumber 3 g ts A) (hQ : RetV p l e (rk 1 21) s m args below meth c cX7_readNumber g (WC ts a) A σ' Q) : ∀ (σ : St) (x1 : Int32) (H : Heap) (locs : List Loc) (ls : Array Slot), f_X7_readNumber_b69 σ x1 = some σ' → va_P g classes (WC ts a σ) H → va_D A (WC ts a σ) → va_S A s.heap H locs → lv_has ls 3 [(0, .ref (a 20)), (1, .int x1)] → W p l e (rk 1 21) s m args below meth c H locs 0 0 Q (F0 m 69 ls []) := by
  have hx := C.1
  have hb := C.2.1
  have hown := C.2.2.2.1
  have hts := C.2.2.2.2.1
  intro σ x1 H locs ls hf hP hD hS hl
  rw [f_X7_readNumber_b69] at hf
  refine lv_aload_n hx hb dX7_readNumber_69 rfl (lv_at hl 0 rfl) ?_
  refine G_X7_law C hP q_249 dX7_readNumber_70 ?_
  obtain ⟨j10, ej10, fj10, hf⟩ := derefL_some hf
  rw [lawv_s ej10]
  refine lv_iload_n hx hb dX7_readNumber_73 rfl (lv_at hl 1 rfl) ?_
  obtain ⟨σ12, h11, hf⟩ := bnd1_some hf
  refine vV [] C hP hD hS (c_X4_emit fj10 h11) mv_X4_emit q_547 (rv_X4 fj10) dX7_readNumber_74 ⟨Nat.le_of_ble_eq_true rfl, Nat.le_of_ble_eq_true rfl⟩ ⟨Nat.zero_le _, Nat.zero_le _⟩ rfl rfl (Nat.le_of_ble_eq_true rfl) hl.1 (fun H locs hP hD hS => ?_)
  exact retV hQ hf dX7_readNumber_77 hP hD hS
set_option maxHeartbeats 4000000 in
set_option maxRecDepth 100000 in
theorem w_X7_readNumber_b4 {p : Program} {l : Launch} {e : Env} {s : State} {m : MethodId} {args : Array Value} {below : List Frame} {meth : Method} {c : Code} {g : va_G} {ts : ClassId × ClassId × ClassId} {A : Nat → Prop} {Q : State → Prop} {a : Nat → Nat} {σ' : St} (C : FX p s m args meth c RX7 cX7_readNumber 3 g ts A) (hQ : RetV p l e (rk 1 21) s m args below meth c cX7_readNumber g (WC ts a) A σ' Q) : ∀ (n : Nat) (σ : St) (x1 : Int32) (x2 : Int32) (H : Heap) (locs : List Loc) (ls : Array Slot), f_X7_readNumber_b4 n σ x1 x2 = some σ' → va_P g classes (WC ts a σ) H → va_D A (WC ts a σ) → va_S A s.heap H locs → lv_has ls 3 [(0, .ref (a 20)), (1, .int x1), (2, .int x2)] → W p l e (rk 1 21) s m args below meth c H locs 0 0 Q (F0 m 4 ls []) := by
  have hx := C.1
  have hb := C.2.1
  have hown := C.2.2.2.1
  have hts := C.2.2.2.2.1
  intro n
  induction n with
  | zero =>
    intro σ x1 x2 H locs ls hf
    cases hf
  | succ n ih =>
    intro σ x1 x2 H locs ls hf hP hD hS hl
    rw [f_X7_readNumber_b4] at hf
    refine lv_iload_n hx hb dX7_readNumber_4 rfl (lv_at hl 2 rfl) ?_
    refine lv_iconst (v := 4) hx hb dX7_readNumber_5 (by decide) ?_
    refine lv_icmp_ge (tgt := 69) hx hb dX7_readNumber_6 (by decide) (fun c1 => ?_) (fun c1 => ?_)
    · replace hf := ipos c1 hf
      exact w_X7_readNumber_b69 C hQ _ _ _ _ _ hf hP hD hS (lv_sub hl [0, 1] rfl)
    · replace hf := ineg c1 hf
      refine lv_aload_n hx hb dX7_readNumber_9 rfl (lv_at hl 0 rfl) ?_
      refine G_X7_at C hP q_248 dX7_readNumber_10 ?_
      refine lv_aload_n hx hb dX7_readNumber_13 rfl (lv_at hl 0 rfl) ?_
      refine G_X7_length C hP q_246 dX7_readNumber_14 ?_
      refine lv_icmp_ge (tgt := 69) hx hb dX7_readNumber_17 (by decide) (fun c2 => ?_) (fun c2 => ?_)
      · replace hf := ipos c2 hf
        exact w_X7_readNumber_b69 C hQ _ _ _ _ _ hf hP hD hS (lv_sub hl [0, 1] rfl)
      · replace hf := ineg c2 hf
        refine lv_aload_n hx hb dX7_readNumber_20 rfl (lv_at hl 0 rfl) ?_
        refine G_X7_tape C hP q_245 dX7_readNumber_21 ?_
        refine lv_aload_n hx hb dX7_readNumber_24 rfl (lv_at hl 0 rfl) ?_
        refine G_X7_at C hP q_248 dX7_readNumber_25 ?_
        obtain ⟨h3, hf⟩ := chk_some hf
        refine AL_X7_tape C hP h3 dX7_readNumber_28 ?_
        obtain ⟨r5, h4, hf⟩ := bnd1_some hf
        refine tI [] C hP hD hS (c_X7_isDigit h4) ms_X7_isDigit q_540 dX7_readNumber_29 ⟨Nat.le_of_ble_eq_true rfl, Nat.le_of_ble_eq_true rfl⟩ ⟨Nat.zero_le _, Nat.zero_le _⟩ rfl rfl (Nat.le_of_ble_eq_true rfl) hl.1 (fun H locs hP hD hS => ?_)
        refine lv_if_eq (tgt := 69) hx hb dX7_readNumber_32 (by decide) (fun c6 => ?_) (fun c6 => ?_)
        · replace hf := ipos c6 hf
          exact w_X7_readNumber_b69 C hQ _ _ _ _ _ hf hP hD hS (lv_sub hl [0, 1] rfl)
        · replace hf := ineg c6 hf
          refine lv_iload_n hx hb dX7_readNumber_35 rfl (lv_at hl 1 rfl) ?_
          refine lv_bipush (v := 10) hx hb dX7_readNumber_36 (by decide) ?_
          refine lv_imul hx hb dX7_readNumber_38 ?_
          refine lv_aload_n hx hb dX7_readNumber_39 rfl (lv_at hl 0 rfl) ?_
          refine G_X7_tape C hP q_245 dX7_readNumber_40 ?_
          refine lv_aload_n hx hb dX7_readNumber_43 rfl (lv_at hl 0 rfl) ?_
          refine G_X7_at C hP q_248 dX7_readNumber_44 ?_
          obtain ⟨h7, hf⟩ := chk_some hf
          refine AL_X7_tape C hP h7 dX7_readNumber_47 ?_
          refine lv_iadd hx hb dX7_readNumber_48 ?_
          refine lv_bipush (v := 48) hx hb dX7_readNumber_49 (by decide) ?_
          refine lv_isub hx hb dX7_readNumber_51 ?_
          refine lv_topi (fun v8 ev8 => ?_)
          replace hf := bnd_at ev8 hf
          refine lv_istore_n (lv' := [(1, .int v8), (0, .ref (a 20)), (2, .int x2)]) hx hb dX7_readNumber_52 rfl hl (by decide) rfl (fun ls hl => ?_)
          refine lv_aload_n hx hb dX7_readNumber_53 rfl (lv_at hl 1 rfl) ?_
          refine lv_dup hx hb dX7_readNumber_54 rfl ?_
          refine G_X7_at C hP q_248 dX7_readNumber_55 ?_
          refine lv_iconst (v := 1) hx hb dX7_readNumber_58 (by decide) ?_
          refine lv_iadd hx hb dX7_readNumber_59 ?_
          refine S_X7_at C hP hD hS q_248 dX7_readNumber_60 (fun H locs hP hD hS => ?_)
          obtain ⟨v9, ev9⟩ : ∃ z : Int32, z = x2 + 1 := ⟨_, rfl⟩
          replace hf := bnd_at ev9 hf
          refine lv_iinc (v := v9) (lv' := [(2, .int v9), (1, .int v8), (0, .ref (a 20))]) hx hb dX7_readNumber_63 hl (k := 2) rfl (by rw [ev9]; rfl) (by decide) rfl (fun ls hl => ?_)
          refine lv_goto (tgt := 4) hx hb dX7_readNumber_66 (by decide) ?_
          exact ih _ _ _ _ _ _ hf hP hD hS (lv_sub hl [2, 1, 0] rfl)
set_option maxHeartbeats 4000000 in
set_option maxRecDepth 100000 in
theorem c_X7_readNumber {l : Launch} {g : va_G} {ts : ClassId × ClassId × ClassId} {a : Nat → Nat} {σ : St} {σ' : St} (hf : f_X7_readNumber σ = some σ') : ConV l g ts (WC ts a) yX7_readNumber cX7_readNumber 3 none (rk 1 21) σ [.ref (a 20)] σ' := by
  refine ConV_mk rfl rfl (by decide) (Nat.le_of_ble_eq_true rfl) ?_
  intro p e s m below meth c A Q ls C hQ hP hD hS hl
  have C : FX p s m _ meth c RX7 cX7_readNumber 3 g ts A := C
  have hx := C.1
  have hb := C.2.1
  have hown := C.2.2.2.1
  have hts := C.2.2.2.2.1
  have hl : lv_has ls 3 [(0, .ref (a 20))] := hl
  rw [f_X7_readNumber] at hf
  refine lv_iconst (v := 0) hx hb dX7_readNumber_0 (by decide) ?_
  refine lv_istore_n (lv' := [(1, .int (0 : Int32)), (0, .ref (a 20))]) hx hb dX7_readNumber_1 rfl hl (by decide) rfl (fun ls hl => ?_)
  refine lv_iconst (v := 0) hx hb dX7_readNumber_2 (by decide) ?_
  refine lv_istore_n (lv' := [(2, .int (0 : Int32)), (1, .int (0 : Int32)), (0, .ref (a 20))]) hx hb dX7_readNumber_3 rfl hl (by decide) rfl (fun ls hl => ?_)
  exact w_X7_readNumber_b4 C hQ 256 _ _ _ _ _ _ hf hP hD hS (lv_sub hl [2, 1, 0] rfl)
