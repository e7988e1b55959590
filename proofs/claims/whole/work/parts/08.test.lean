theorem dX11_shelfThere_0 : decode cX11_shelfThere 0 = .ok (.iload_n 0, 1) := by decide +kernel
theorem dX11_shelfThere_1 : decode cX11_shelfThere 1 = .ok (.ifCond .lt 13, 3) := by decide +kernel
theorem dX11_shelfThere_4 : decode cX11_shelfThere 4 = .ok (.iload_n 0, 1) := by decide +kernel
theorem dX11_shelfThere_5 : decode cX11_shelfThere 5 = .ok (.bipush 6, 2) := by decide +kernel
theorem dX11_shelfThere_7 : decode cX11_shelfThere 7 = .ok (.if_icmp .ge 7, 3) := by decide +kernel
theorem dX11_shelfThere_10 : decode cX11_shelfThere 10 = .ok (.iconst 1, 1) := by decide +kernel
theorem dX11_shelfThere_11 : decode cX11_shelfThere 11 = .ok (.goto 4, 3) := by decide +kernel
theorem dX11_shelfThere_14 : decode cX11_shelfThere 14 = .ok (.iconst 0, 1) := by decide +kernel
theorem dX11_shelfThere_15 : decode cX11_shelfThere 15 = .ok (.ireturn, 1) := by decide +kernel
theorem ms_X11_shelfThere : MS yX11_shelfThere cX11_shelfThere 1 (some .boolean) 1 := ⟨q_426, q_58, q_427, by decide +kernel, by decide +kernel, by decide +kernel⟩
def f_X11_shelfThere0 (p1 : Int32) : Option Int32 := if p1 < 0 then (some (0 : Int32)) else (if (6 : Int32) ≤ p1 then (some (0 : Int32)) else (some (1 : Int32)))
def f_X11_shelfThere (p1 : Int32) : Option Int32 := chkB1 (f_X11_shelfThere0 p1)
set_option maxHeartbeats 4000000 in
set_option maxRecDepth 100000 in
theorem c_X11_shelfThere {l : Launch} {g : va_G} {ts : ClassId × ClassId × ClassId} {wf : St → va_W} {σ : St} {p1 : Int32} {r : Int32} (hf : f_X11_shelfThere p1 = some r) : ConI l g ts (wf) yX11_shelfThere cX11_shelfThere 1 (some .boolean) (rk 0 0) σ [.int p1] r σ := by
  rw [f_X11_shelfThere] at hf
  obtain ⟨hf, hn⟩ := chkB1_some hf
  refine ConI_mk .boolean rfl hn rfl rfl (by decide) (Nat.le_of_ble_eq_true rfl) ?_
  intro p e s m below meth c A Q ls C hQ hP hD hS hl
  have C : FX p s m _ meth c RX11 cX11_shelfThere 1 g ts A := C
  have hx := C.1
  have hb := C.2.1
  have hown := C.2.2.2.1
  have hts := C.2.2.2.2.1
  have hl : lv_has ls 1 [(0, .int p1)] := hl
  rw [f_X11_shelfThere0] at hf
  refine lv_iload_n hx hb dX11_shelfThere_0 rfl (lv_at hl 0 rfl) ?_
  refine lv_if_lt (tgt := 14) hx hb dX11_shelfThere_1 (by decide) (fun c1 => ?_) (fun c1 => ?_)
  · replace hf := ipos c1 hf
    refine lv_iconst (v := 0) hx hb dX11_shelfThere_14 (by decide) ?_
    exact retIp hQ hf dX11_shelfThere_15 hP hD hS
  · replace hf := ineg c1 hf
    refine lv_iload_n hx hb dX11_shelfThere_4 rfl (lv_at hl 0 rfl) ?_
    refine lv_bipush (v := 6) hx hb dX11_shelfThere_5 (by decide) ?_
    refine lv_icmp_ge (tgt := 14) hx hb dX11_shelfThere_7 (by decide) (fun c2 => ?_) (fun c2 => ?_)
    · replace hf := ipos c2 hf
      refine lv_iconst (v := 0) hx hb dX11_shelfThere_14 (by decide) ?_
      exact retIp hQ hf dX11_shelfThere_15 hP hD hS
    · replace hf := ineg c2 hf
      refine lv_iconst (v := 1) hx hb dX11_shelfThere_10 (by decide) ?_
      refine lv_goto (tgt := 15) hx hb dX11_shelfThere_11 (by decide) ?_
      exact retIp hQ hf dX11_shelfThere_15 hP hD hS
theorem dX11_isLetter_0 : decode cX11_isLetter 0 = .ok (.lload_n 0, 1) := by decide +kernel
theorem dX11_isLetter_1 : decode cX11_isLetter 1 = .ok (.lconst 0, 1) := by decide +kernel
theorem dX11_isLetter_2 : decode cX11_isLetter 2 = .ok (.lcmp, 1) := by decide +kernel
theorem dX11_isLetter_3 : decode cX11_isLetter 3 = .ok (.ifCond .lt 15, 3) := by decide +kernel
theorem dX11_isLetter_6 : decode cX11_isLetter 6 = .ok (.lload_n 0, 1) := by decide +kernel
theorem dX11_isLetter_7 : decode cX11_isLetter 7 = .ok (.ldc2_w 187, 3) := by decide +kernel
theorem dX11_isLetter_10 : decode cX11_isLetter 10 = .ok (.lcmp, 1) := by decide +kernel
theorem dX11_isLetter_11 : decode cX11_isLetter 11 = .ok (.ifCond .ge 7, 3) := by decide +kernel
theorem dX11_isLetter_14 : decode cX11_isLetter 14 = .ok (.iconst 1, 1) := by decide +kernel
theorem dX11_isLetter_15 : decode cX11_isLetter 15 = .ok (.goto 4, 3) := by decide +kernel
theorem dX11_isLetter_18 : decode cX11_isLetter 18 = .ok (.iconst 0, 1) := by decide +kernel
theorem dX11_isLetter_19 : decode cX11_isLetter 19 = .ok (.ireturn, 1) := by decide +kernel
theorem ms_X11_isLetter : MS yX11_isLetter cX11_isLetter 2 (some .boolean) 1 := ⟨q_449, q_58, q_450, by decide +kernel, by decide +kernel, by decide +kernel⟩
def f_X11_isLetter0 (p1 : Int64) : Option Int32 := if p1 < (0 : Int64) then (some (0 : Int32)) else (if (12 : Int64) ≤ p1 then (some (0 : Int32)) else (some (1 : Int32)))
def f_X11_isLetter (p1 : Int64) : Option Int32 := chkB1 (f_X11_isLetter0 p1)
set_option maxHeartbeats 4000000 in
set_option maxRecDepth 100000 in
theorem c_X11_isLetter {l : Launch} {g : va_G} {ts : ClassId × ClassId × ClassId} {wf : St → va_W} {σ : St} {p1 : Int64} {r : Int32} (hf : f_X11_isLetter p1 = some r) : ConI l g ts (wf) yX11_isLetter cX11_isLetter 2 (some .boolean) (rk 0 0) σ [.long p1] r σ := by
  rw [f_X11_isLetter] at hf
  obtain ⟨hf, hn⟩ := chkB1_some hf
  refine ConI_mk .boolean rfl hn rfl rfl (by decide) (Nat.le_of_ble_eq_true rfl) ?_
  intro p e s m below meth c A Q ls C hQ hP hD hS hl
  have C : FX p s m _ meth c RX11 cX11_isLetter 2 g ts A := C
  have hx := C.1
  have hb := C.2.1
  have hown := C.2.2.2.1
  have hts := C.2.2.2.2.1
  have hl : lv_has ls 2 [(0, .long p1)] := hl
  rw [f_X11_isLetter0] at hf
  refine lv_lload_n hx hb dX11_isLetter_0 rfl (lv_at hl 0 rfl) ?_
  refine lv_lconst (v := 0) hx hb dX11_isLetter_1 (by decide) ?_
  refine lb_lt (tgt := 18) hx hb dX11_isLetter_2 dX11_isLetter_3 (by decide) (fun c1 => ?_) (fun c1 => ?_)
  · replace hf := ipos c1 hf
    refine lv_iconst (v := 0) hx hb dX11_isLetter_18 (by decide) ?_
    exact retIp hQ hf dX11_isLetter_19 hP hD hS
  · replace hf := ineg c1 hf
    refine lv_lload_n hx hb dX11_isLetter_6 rfl (lv_at hl 0 rfl) ?_
    refine lv_ldc2 hx hb hown (hts _ q_451) dX11_isLetter_7 ?_
    refine lb_ge (tgt := 18) hx hb dX11_isLetter_10 dX11_isLetter_11 (by decide) (fun c2 => ?_) (fun c2 => ?_)
    · replace hf := ipos c2 hf
      refine lv_iconst (v := 0) hx hb dX11_isLetter_18 (by decide) ?_
      exact retIp hQ hf dX11_isLetter_19 hP hD hS
    · replace hf := ineg c2 hf
      refine lv_iconst (v := 1) hx hb dX11_isLetter_14 (by decide) ?_
      refine lv_goto (tgt := 19) hx hb dX11_isLetter_15 (by decide) ?_
      exact retIp hQ hf dX11_isLetter_19 hP hD hS
theorem dX11_twoLetters_0 : decode cX11_twoLetters 0 = .ok (.iload_n 0, 1) := by decide +kernel
theorem dX11_twoLetters_1 : decode cX11_twoLetters 1 = .ok (.ifCond .lt 29, 3) := by decide +kernel
theorem dX11_twoLetters_4 : decode cX11_twoLetters 4 = .ok (.iload_n 0, 1) := by decide +kernel
theorem dX11_twoLetters_5 : decode cX11_twoLetters 5 = .ok (.bipush 100, 2) := by decide +kernel
theorem dX11_twoLetters_7 : decode cX11_twoLetters 7 = .ok (.idiv, 1) := by decide +kernel
theorem dX11_twoLetters_8 : decode cX11_twoLetters 8 = .ok (.i2l, 1) := by decide +kernel
theorem dX11_twoLetters_9 : decode cX11_twoLetters 9 = .ok (.invokestatic 400, 3) := by decide +kernel
theorem dX11_twoLetters_12 : decode cX11_twoLetters 12 = .ok (.ifCond .eq 18, 3) := by decide +kernel
theorem dX11_twoLetters_15 : decode cX11_twoLetters 15 = .ok (.iload_n 0, 1) := by decide +kernel
theorem dX11_twoLetters_16 : decode cX11_twoLetters 16 = .ok (.bipush 100, 2) := by decide +kernel
theorem dX11_twoLetters_18 : decode cX11_twoLetters 18 = .ok (.irem, 1) := by decide +kernel
theorem dX11_twoLetters_19 : decode cX11_twoLetters 19 = .ok (.i2l, 1) := by decide +kernel
theorem dX11_twoLetters_20 : decode cX11_twoLetters 20 = .ok (.invokestatic 400, 3) := by decide +kernel
theorem dX11_twoLetters_23 : decode cX11_twoLetters 23 = .ok (.ifCond .eq 7, 3) := by decide +kernel
theorem dX11_twoLetters_26 : decode cX11_twoLetters 26 = .ok (.iconst 1, 1) := by decide +kernel
theorem dX11_twoLetters_27 : decode cX11_twoLetters 27 = .ok (.goto 4, 3) := by decide +kernel
theorem dX11_twoLetters_30 : decode cX11_twoLetters 30 = .ok (.iconst 0, 1) := by decide +kernel
theorem dX11_twoLetters_31 : decode cX11_twoLetters 31 = .ok (.ireturn, 1) := by decide +kernel
theorem ms_X11_twoLetters : MS yX11_twoLetters cX11_twoLetters 1 (some .boolean) 1 := ⟨q_470, q_58, q_471, by decide +kernel, by decide +kernel, by decide +kernel⟩
def f_X11_twoLetters0 (p1 : Int32) : Option Int32 := if p1 < 0 then (some (0 : Int32)) else (bnd1 (f_X11_isLetter (((p1 / (100 : Int32)) : Int32).toInt64)) (fun r3 => if r3 = 0 then (some (0 : Int32)) else (bnd1 (f_X11_isLetter (((p1 - p1 / (100 : Int32) * (100 : Int32)) : Int32).toInt64)) (fun r6 => if r6 = 0 then (some (0 : Int32)) else (some (1 : Int32))))))
def f_X11_twoLetters (p1 : Int32) : Option Int32 := chkB1 (f_X11_twoLetters0 p1)
set_option maxHeartbeats 4000000 in
set_option maxRecDepth 100000 in
theorem c_X11_twoLetters {l : Launch} {g : va_G} {ts : ClassId × ClassId × ClassId} {wf : St → va_W} {σ : St} {p1 : Int32} {r : Int32} (hf : f_X11_twoLetters p1 = some r) : ConI l g ts (wf) yX11_twoLetters cX11_twoLetters 1 (some .boolean) (rk 1 21) σ [.int p1] r σ := by
  rw [f_X11_twoLetters] at hf
  obtain ⟨hf, hn⟩ := chkB1_some hf
  refine ConI_mk .boolean rfl hn rfl rfl (by decide) (Nat.le_of_ble_eq_true rfl) ?_
  intro p e s m below meth c A Q ls C hQ hP hD hS hl
  have C : FX p s m _ meth c RX11 cX11_twoLetters 1 g ts A := C
  have hx := C.1
  have hb := C.2.1
  have hown := C.2.2.2.1
  have hts := C.2.2.2.2.1
  have hl : lv_has ls 1 [(0, .int p1)] := hl
  rw [f_X11_twoLetters0] at hf
  refine lv_iload_n hx hb dX11_twoLetters_0 rfl (lv_at hl 0 rfl) ?_
  refine lv_if_lt (tgt := 30) hx hb dX11_twoLetters_1 (by decide) (fun c1 => ?_) (fun c1 => ?_)
  · replace hf := ipos c1 hf
    refine lv_iconst (v := 0) hx hb dX11_twoLetters_30 (by decide) ?_
    exact retIp hQ hf dX11_twoLetters_31 hP hD hS
  · replace hf := ineg c1 hf
    refine lv_iload_n hx hb dX11_twoLetters_4 rfl (lv_at hl 0 rfl) ?_
    refine lv_bipush (v := 100) hx hb dX11_twoLetters_5 (by decide) ?_
    refine lv_idiv hx hb dX11_twoLetters_7 (by decide) ?_
    refine lv_i2l (v := ((p1 / (100 : Int32)) : Int32).toInt64) hx hb dX11_twoLetters_8 rfl ?_
    obtain ⟨r3, h2, hf⟩ := bnd1_some hf
    refine tI [] C hP hD hS (c_X11_isLetter h2) ms_X11_isLetter q_472 dX11_twoLetters_9 ⟨Nat.le_of_ble_eq_true rfl, Nat.le_of_ble_eq_true rfl⟩ ⟨Nat.zero_le _, Nat.zero_le _⟩ rfl rfl (Nat.le_of_ble_eq_true rfl) hl.1 (fun H locs hP hD hS => ?_)
    refine lv_if_eq (tgt := 30) hx hb dX11_twoLetters_12 (by decide) (fun c4 => ?_) (fun c4 => ?_)
    · replace hf := ipos c4 hf
      refine lv_iconst (v := 0) hx hb dX11_twoLetters_30 (by decide) ?_
      exact retIp hQ hf dX11_twoLetters_31 hP hD hS
    · replace hf := ineg c4 hf
      refine lv_iload_n hx hb dX11_twoLetters_15 rfl (lv_at hl 0 rfl) ?_
      refine lv_bipush (v := 100) hx hb dX11_twoLetters_16 (by decide) ?_
      refine lv_irem hx hb dX11_twoLetters_18 (by decide) ?_
      refine lv_i2l (v := ((p1 - p1 / (100 : Int32) * (100 : Int32)) : Int32).toInt64) hx hb dX11_twoLetters_19 rfl ?_
      obtain ⟨r6, h5, hf⟩ := bnd1_some hf
      refine tI [] C hP hD hS (c_X11_isLetter h5) ms_X11_isLetter q_472 dX11_twoLetters_20 ⟨Nat.le_of_ble_eq_true rfl, Nat.le_of_ble_eq_true rfl⟩ ⟨Nat.zero_le _, Nat.zero_le _⟩ rfl rfl (Nat.le_of_ble_eq_true rfl) hl.1 (fun H locs hP hD hS => ?_)
      refine lv_if_eq (tgt := 30) hx hb dX11_twoLetters_23 (by decide) (fun c7 => ?_) (fun c7 => ?_)
      · replace hf := ipos c7 hf
        refine lv_iconst (v := 0) hx hb dX11_twoLetters_30 (by decide) ?_
        exact retIp hQ hf dX11_twoLetters_31 hP hD hS
      · replace hf := ineg c7 hf
        refine lv_iconst (v := 1) hx hb dX11_twoLetters_26 (by decide) ?_
        refine lv_goto (tgt := 31) hx hb dX11_twoLetters_27 (by decide) ?_
        exact retIp hQ hf dX11_twoLetters_31 hP hD hS
theorem dX11_lowest_0 : decode cX11_lowest 0 = .ok (.lload_n 2, 1) := by decide +kernel
theorem dX11_lowest_1 : decode cX11_lowest 1 = .ok (.lstore 5, 2) := by decide +kernel
theorem dX11_lowest_3 : decode cX11_lowest 3 = .ok (.lload_n 0, 1) := by decide +kernel
theorem dX11_lowest_4 : decode cX11_lowest 4 = .ok (.lstore 7, 2) := by decide +kernel
theorem dX11_lowest_6 : decode cX11_lowest 6 = .ok (.iconst 0, 1) := by decide +kernel
theorem dX11_lowest_7 : decode cX11_lowest 7 = .ok (.istore 9, 2) := by decide +kernel
theorem dX11_lowest_9 : decode cX11_lowest 9 = .ok (.iload 9, 2) := by decide +kernel
theorem dX11_lowest_11 : decode cX11_lowest 11 = .ok (.sipush 200, 3) := by decide +kernel
theorem dX11_lowest_14 : decode cX11_lowest 14 = .ok (.if_icmp .ge 31, 3) := by decide +kernel
theorem dX11_lowest_17 : decode cX11_lowest 17 = .ok (.lload 7, 2) := by decide +kernel
theorem dX11_lowest_19 : decode cX11_lowest 19 = .ok (.lconst 0, 1) := by decide +kernel
theorem dX11_lowest_20 : decode cX11_lowest 20 = .ok (.lcmp, 1) := by decide +kernel
theorem dX11_lowest_21 : decode cX11_lowest 21 = .ok (.ifCond .eq 24, 3) := by decide +kernel
theorem dX11_lowest_24 : decode cX11_lowest 24 = .ok (.lload 5, 2) := by decide +kernel
theorem dX11_lowest_26 : decode cX11_lowest 26 = .ok (.lload 7, 2) := by decide +kernel
theorem dX11_lowest_28 : decode cX11_lowest 28 = .ok (.lrem, 1) := by decide +kernel
theorem dX11_lowest_29 : decode cX11_lowest 29 = .ok (.lstore 10, 2) := by decide +kernel
theorem dX11_lowest_31 : decode cX11_lowest 31 = .ok (.lload 7, 2) := by decide +kernel
theorem dX11_lowest_33 : decode cX11_lowest 33 = .ok (.lstore 5, 2) := by decide +kernel
theorem dX11_lowest_35 : decode cX11_lowest 35 = .ok (.lload 10, 2) := by decide +kernel
theorem dX11_lowest_37 : decode cX11_lowest 37 = .ok (.lstore 7, 2) := by decide +kernel
theorem dX11_lowest_39 : decode cX11_lowest 39 = .ok (.iinc 9 1, 3) := by decide +kernel
theorem dX11_lowest_42 : decode cX11_lowest 42 = .ok (.goto (-33), 3) := by decide +kernel
theorem dX11_lowest_45 : decode cX11_lowest 45 = .ok (.lload 5, 2) := by decide +kernel
theorem dX11_lowest_47 : decode cX11_lowest 47 = .ok (.lconst 0, 1) := by decide +kernel
theorem dX11_lowest_48 : decode cX11_lowest 48 = .ok (.lcmp, 1) := by decide +kernel
theorem dX11_lowest_49 : decode cX11_lowest 49 = .ok (.ifCond .ne 7, 3) := by decide +kernel
theorem dX11_lowest_52 : decode cX11_lowest 52 = .ok (.ldc2_w 153, 3) := by decide +kernel
theorem dX11_lowest_55 : decode cX11_lowest 55 = .ok (.lreturn, 1) := by decide +kernel
theorem dX11_lowest_56 : decode cX11_lowest 56 = .ok (.iload 4, 2) := by decide +kernel
theorem dX11_lowest_58 : decode cX11_lowest 58 = .ok (.ifCond .ne 7, 3) := by decide +kernel
theorem dX11_lowest_61 : decode cX11_lowest 61 = .ok (.lload_n 0, 1) := by decide +kernel
theorem dX11_lowest_62 : decode cX11_lowest 62 = .ok (.goto 4, 3) := by decide +kernel
theorem dX11_lowest_65 : decode cX11_lowest 65 = .ok (.lload_n 2, 1) := by decide +kernel
theorem dX11_lowest_66 : decode cX11_lowest 66 = .ok (.lload 5, 2) := by decide +kernel
theorem dX11_lowest_68 : decode cX11_lowest 68 = .ok (.ldiv, 1) := by decide +kernel
theorem dX11_lowest_69 : decode cX11_lowest 69 = .ok (.lreturn, 1) := by decide +kernel
theorem ms_X11_lowest : MS yX11_lowest cX11_lowest 12 (some .long) 3 := ⟨q_680, q_58, q_681, by decide +kernel, by decide +kernel, by decide +kernel⟩
def f_X11_lowest_b45 (x0 : Int64) (x2 : Int64) (x4 : Int32) (x5 : Int64) : Option Int64 := if x5 = (0 : Int64) then (some (-9223372036854775808 : Int64)) else (if x4 = 0 then (chk (x5 = 0) (some (x0 / x5))) else (chk (x5 = 0) (some (x2 / x5))))
def f_X11_lowest_b9 : Nat → Int64 → Int64 → Int32 → Int64 → Int64 → Int32 → Option Int64
  | 0, _, _, _, _, _, _ => none
  | n + 1, x0, x2, x4, x5, x7, x9 => if (200 : Int32) ≤ x9 then (f_X11_lowest_b45 x0 x2 x4 x5) else (if x7 = (0 : Int64) then (f_X11_lowest_b45 x0 x2 x4 x5) else (chk (x7 = 0) (bnd (x5 - x5 / x7 * x7) (fun v4 => bnd (x9 + 1) (fun v5 => f_X11_lowest_b9 n x0 x2 x4 x7 v4 v5)))))
def f_X11_lowest (p1 : Int64) (p2 : Int64) (p3 : Int32) : Option Int64 := f_X11_lowest_b9 256 p1 p2 p3 p2 p1 (0 : Int32)
set_option maxHeartbeats 4000000 in
set_option maxRecDepth 100000 in
theorem w_X11_lowest_b45 {p : Program} {l : Launch} {e : Env} {s : State} {m : MethodId} {args : Array Value} {below : List Frame} {meth : Method} {c : Code} {g : va_G} {ts : ClassId × ClassId × ClassId} {A : Nat → Prop} {Q : State → Prop} {wf : St → va_W} {σ : St} {r : Int64} (C : FX p s m args meth c RX11 cX11_lowest 12 g ts A) (hQ : RetL p l e (rk 0 0) s m args below meth c cX11_lowest g (wf) A r σ Q) : ∀ (x0 : Int64) (x2 : Int64) (x4 : Int32) (x5 : Int64) (H : Heap) (locs : List Loc) (ls : Array Slot), f_X11_lowest_b45 x0 x2 x4 x5 = some r → va_P g classes (wf σ) H → va_D A (wf σ) → va_S A s.heap H locs → lv_has ls 12 [(0, .long x0), (2, .long x2), (4, .int x4), (5, .long x5)] → W p l e (rk 0 0) s m args below meth c H locs 0 0 Q (F0 m 45 ls []) := by
  have hx := C.1
  have hb := C.2.1
  have hown := C.2.2.2.1
  have hts := C.2.2.2.2.1
  intro x0 x2 x4 x5 H locs ls hf hP hD hS hl
  rw [f_X11_lowest_b45] at hf
  refine lv_lload hx hb dX11_lowest_45 (lv_at hl 3 rfl) ?_
  refine lv_lconst (v := 0) hx hb dX11_lowest_47 (by decide) ?_
  refine lb_ne (tgt := 56) hx hb dX11_lowest_48 dX11_lowest_49 (by decide) (fun c6 => ?_) (fun c6 => ?_)
  · replace hf := ineg c6 hf
    refine lv_iload hx hb dX11_lowest_56 (lv_at hl 2 rfl) ?_
    refine lv_if_ne (tgt := 65) hx hb dX11_lowest_58 (by decide) (fun c7 => ?_) (fun c7 => ?_)
    · replace hf := ineg c7 hf
      refine lv_lload_n hx hb dX11_lowest_65 rfl (lv_at hl 1 rfl) ?_
      refine lv_lload hx hb dX11_lowest_66 (lv_at hl 3 rfl) ?_
      obtain ⟨h8, hf⟩ := chk_some hf
      refine lv_ldiv hx hb dX11_lowest_68 h8 ?_
      exact retLp hQ hf dX11_lowest_69 hP hD hS
    · replace hf := ipos c7 hf
      refine lv_lload_n hx hb dX11_lowest_61 rfl (lv_at hl 0 rfl) ?_
      refine lv_goto (tgt := 66) hx hb dX11_lowest_62 (by decide) ?_
      refine lv_lload hx hb dX11_lowest_66 (lv_at hl 3 rfl) ?_
      obtain ⟨h9, hf⟩ := chk_some hf
      refine lv_ldiv hx hb dX11_lowest_68 h9 ?_
      exact retLp hQ hf dX11_lowest_69 hP hD hS
  · replace hf := ipos c6 hf
    refine lv_ldc2 hx hb hown (hts _ q_661) dX11_lowest_52 ?_
    exact retLp hQ hf dX11_lowest_55 hP hD hS
set_option maxHeartbeats 4000000 in
set_option maxRecDepth 100000 in
theorem w_X11_lowest_b9 {p : Program} {l : Launch} {e : Env} {s : State} {m : MethodId} {args : Array Value} {below : List Frame} {meth : Method} {c : Code} {g : va_G} {ts : ClassId × ClassId × ClassId} {A : Nat → Prop} {Q : State → Prop} {wf : St → va_W} {σ : St} {r : Int64} (C : FX p s m args meth c RX11 cX11_lowest 12 g ts A) (hQ : RetL p l e (rk 0 0) s m args below meth c cX11_lowest g (wf) A r σ Q) : ∀ (n : Nat) (x0 : Int64) (x2 : Int64) (x4 : Int32) (x5 : Int64) (x7 : Int64) (x9 : Int32) (H : Heap) (locs : List Loc) (ls : Array Slot), f_X11_lowest_b9 n x0 x2 x4 x5 x7 x9 = some r → va_P g classes (wf σ) H → va_D A (wf σ) → va_S A s.heap H locs → lv_has ls 12 [(0, .long x0), (2, .long x2), (4, .int x4), (5, .long x5), (7, .long x7), (9, .int x9)] → W p l e (rk 0 0) s m args below meth c H locs 0 0 Q (F0 m 9 ls []) := by
  have hx := C.1
  have hb := C.2.1
  have hown := C.2.2.2.1
  have hts := C.2.2.2.2.1
  intro n
  induction n with
  | zero =>
    intro x0 x2 x4 x5 x7 x9 H locs ls hf
    cases hf
  | succ n ih =>
    intro x0 x2 x4 x5 x7 x9 H locs ls hf hP hD hS hl
    rw [f_X11_lowest_b9] at hf
    refine lv_iload hx hb dX11_lowest_9 (lv_at hl 5 rfl) ?_
    refine lv_sipush (v := 200) hx hb dX11_lowest_11 (by decide) ?_
    refine lv_icmp_ge (tgt := 45) hx hb dX11_lowest_14 (by decide) (fun c1 => ?_) (fun c1 => ?_)
    · replace hf := ipos c1 hf
      exact w_X11_lowest_b45 C hQ _ _ _ _ _ _ _ hf hP hD hS (lv_sub hl [0, 1, 2, 3] rfl)
    · replace hf := ineg c1 hf
      refine lv_lload hx hb dX11_lowest_17 (lv_at hl 4 rfl) ?_
      refine lv_lconst (v := 0) hx hb dX11_lowest_19 (by decide) ?_
      refine lb_eq (tgt := 45) hx hb dX11_lowest_20 dX11_lowest_21 (by decide) (fun c2 => ?_) (fun c2 => ?_)
      · replace hf := ipos c2 hf
        exact w_X11_lowest_b45 C hQ _ _ _ _ _ _ _ hf hP hD hS (lv_sub hl [0, 1, 2, 3] rfl)
      · replace hf := ineg c2 hf
        refine lv_lload hx hb dX11_lowest_24 (lv_at hl 3 rfl) ?_
        refine lv_lload hx hb dX11_lowest_26 (lv_at hl 4 rfl) ?_
        obtain ⟨h3, hf⟩ := chk_some hf
        refine lv_lrem hx hb dX11_lowest_28 h3 ?_
        refine lv_topl (fun v4 ev4 => ?_)
        replace hf := bnd_at ev4 hf
        refine lv_lstore (lv' := [(10, .long v4), (0, .long x0), (2, .long x2), (4, .int x4), (5, .long x5), (7, .long x7), (9, .int x9)]) hx hb dX11_lowest_29 hl (by decide) rfl (fun ls hl => ?_)
        refine lv_lload hx hb dX11_lowest_31 (lv_at hl 5 rfl) ?_
        refine lv_lstore (lv' := [(5, .long x7), (10, .long v4), (0, .long x0), (2, .long x2), (4, .int x4), (7, .long x7), (9, .int x9)]) hx hb dX11_lowest_33 hl (by decide) rfl (fun ls hl => ?_)
        refine lv_lload hx hb dX11_lowest_35 (lv_at hl 1 rfl) ?_
        refine lv_lstore (lv' := [(7, .long v4), (5, .long x7), (10, .long v4), (0, .long x0), (2, .long x2), (4, .int x4), (9, .int x9)]) hx hb dX11_lowest_37 hl (by decide) rfl (fun ls hl => ?_)
        obtain ⟨v5, ev5⟩ : ∃ z : Int32, z = x9 + 1 := ⟨_, rfl⟩
        replace hf := bnd_at ev5 hf
        refine lv_iinc (v := v5) (lv' := [(9, .int v5), (7, .long v4), (5, .long x7), (10, .long v4), (0, .long x0), (2, .long x2), (4, .int x4)]) hx hb dX11_lowest_39 hl (k := 6) rfl (by rw [ev5]; rfl) (by decide) rfl (fun ls hl => ?_)
        refine lv_goto (tgt := 9) hx hb dX11_lowest_42 (by decide) ?_
        exact ih _ _ _ _ _ _ _ _ _ hf hP hD hS (lv_sub hl [4, 5, 6, 2, 1, 0] rfl)
set_option maxHeartbeats 4000000 in
set_option maxRecDepth 100000 in
theorem c_X11_lowest {l : Launch} {g : va_G} {ts : ClassId × ClassId × ClassId} {wf : St → va_W} {σ : St} {p1 : Int64} {p2 : Int64} {p3 : Int32} {r : Int64} (hf : f_X11_lowest p1 p2 p3 = some r) : ConL l g ts (wf) yX11_lowest cX11_lowest 12 (some .long) (rk 0 0) σ [.long p1, .long p2, .int p3] r σ := by
  refine ConL_mk rfl rfl (by decide) (Nat.le_of_ble_eq_true rfl) ?_
  intro p e s m below meth c A Q ls C hQ hP hD hS hl
  have C : FX p s m _ meth c RX11 cX11_lowest 12 g ts A := C
  have hx := C.1
  have hb := C.2.1
  have hown := C.2.2.2.1
  have hts := C.2.2.2.2.1
  have hl : lv_has ls 12 [(0, .long p1), (2, .long p2), (4, .int p3)] := hl
  rw [f_X11_lowest] at hf
  refine lv_lload_n hx hb dX11_lowest_0 rfl (lv_at hl 1 rfl) ?_
  refine lv_lstore (lv' := [(5, .long p2), (0, .long p1), (2, .long p2), (4, .int p3)]) hx hb dX11_lowest_1 hl (by decide) rfl (fun ls hl => ?_)
  refine lv_lload_n hx hb dX11_lowest_3 rfl (lv_at hl 1 rfl) ?_
  refine lv_lstore (lv' := [(7, .long p1), (5, .long p2), (0, .long p1), (2, .long p2), (4, .int p3)]) hx hb dX11_lowest_4 hl (by decide) rfl (fun ls hl => ?_)
  refine lv_iconst (v := 0) hx hb dX11_lowest_6 (by decide) ?_
  refine lv_istore (lv' := [(9, .int (0 : Int32)), (7, .long p1), (5, .long p2), (0, .long p1), (2, .long p2), (4, .int p3)]) hx hb dX11_lowest_7 hl (by decide) rfl (fun ls hl => ?_)
  exact w_X11_lowest_b9 C hQ 256 _ _ _ _ _ _ _ _ _ hf hP hD hS (lv_sub hl [3, 4, 5, 2, 1, 0] rfl)
theorem dX0_enter_0 : decode cX0_enter 0 = .ok (.aload_n 0, 1) := by decide +kernel
theorem dX0_enter_1 : decode cX0_enter 1 = .ok (.getfield 22, 3) := by decide +kernel
theorem dX0_enter_4 : decode cX0_enter 4 = .ok (.bipush 40, 2) := by decide +kernel
theorem dX0_enter_6 : decode cX0_enter 6 = .ok (.if_icmp .ne 26, 3) := by decide +kernel
theorem dX0_enter_9 : decode cX0_enter 9 = .ok (.aload_n 0, 1) := by decide +kernel
theorem dX0_enter_10 : decode cX0_enter 10 = .ok (.aload_n 0, 1) := by decide +kernel
theorem dX0_enter_11 : decode cX0_enter 11 = .ok (.getfield 26, 3) := by decide +kernel
theorem dX0_enter_14 : decode cX0_enter 14 = .ok (.iconst 1, 1) := by decide +kernel
theorem dX0_enter_15 : decode cX0_enter 15 = .ok (.iadd, 1) := by decide +kernel
theorem dX0_enter_16 : decode cX0_enter 16 = .ok (.bipush 40, 2) := by decide +kernel
theorem dX0_enter_18 : decode cX0_enter 18 = .ok (.irem, 1) := by decide +kernel
theorem dX0_enter_19 : decode cX0_enter 19 = .ok (.putfield 26, 3) := by decide +kernel
theorem dX0_enter_22 : decode cX0_enter 22 = .ok (.aload_n 0, 1) := by decide +kernel
theorem dX0_enter_23 : decode cX0_enter 23 = .ok (.dup, 1) := by decide +kernel
theorem dX0_enter_24 : decode cX0_enter 24 = .ok (.getfield 22, 3) := by decide +kernel
theorem dX0_enter_27 : decode cX0_enter 27 = .ok (.iconst 1, 1) := by decide +kernel
theorem dX0_enter_28 : decode cX0_enter 28 = .ok (.isub, 1) := by decide +kernel
theorem dX0_enter_29 : decode cX0_enter 29 = .ok (.putfield 22, 3) := by decide +kernel
theorem dX0_enter_32 : decode cX0_enter 32 = .ok (.aload_n 0, 1) := by decide +kernel
theorem dX0_enter_33 : decode cX0_enter 33 = .ok (.getfield 26, 3) := by decide +kernel
theorem dX0_enter_36 : decode cX0_enter 36 = .ok (.aload_n 0, 1) := by decide +kernel
theorem dX0_enter_37 : decode cX0_enter 37 = .ok (.getfield 22, 3) := by decide +kernel
theorem dX0_enter_40 : decode cX0_enter 40 = .ok (.iadd, 1) := by decide +kernel
theorem dX0_enter_41 : decode cX0_enter 41 = .ok (.bipush 40, 2) := by decide +kernel
theorem dX0_enter_43 : decode cX0_enter 43 = .ok (.irem, 1) := by decide +kernel
theorem dX0_enter_44 : decode cX0_enter 44 = .ok (.istore 5, 2) := by decide +kernel
theorem dX0_enter_46 : decode cX0_enter 46 = .ok (.aload_n 0, 1) := by decide +kernel
theorem dX0_enter_47 : decode cX0_enter 47 = .ok (.getfield 9, 3) := by decide +kernel
theorem dX0_enter_50 : decode cX0_enter 50 = .ok (.iload 5, 2) := by decide +kernel
theorem dX0_enter_52 : decode cX0_enter 52 = .ok (.iload_n 1, 1) := by decide +kernel
theorem dX0_enter_53 : decode cX0_enter 53 = .ok (.iastore, 1) := by decide +kernel
theorem dX0_enter_54 : decode cX0_enter 54 = .ok (.aload_n 0, 1) := by decide +kernel
theorem dX0_enter_55 : decode cX0_enter 55 = .ok (.getfield 13, 3) := by decide +kernel
theorem dX0_enter_58 : decode cX0_enter 58 = .ok (.iload 5, 2) := by decide +kernel
theorem dX0_enter_60 : decode cX0_enter 60 = .ok (.iload_n 2, 1) := by decide +kernel
theorem dX0_enter_61 : decode cX0_enter 61 = .ok (.iastore, 1) := by decide +kernel
theorem dX0_enter_62 : decode cX0_enter 62 = .ok (.aload_n 0, 1) := by decide +kernel
theorem dX0_enter_63 : decode cX0_enter 63 = .ok (.getfield 16, 3) := by decide +kernel
theorem dX0_enter_66 : decode cX0_enter 66 = .ok (.iload 5, 2) := by decide +kernel
theorem dX0_enter_68 : decode cX0_enter 68 = .ok (.iload_n 3, 1) := by decide +kernel
theorem dX0_enter_69 : decode cX0_enter 69 = .ok (.iastore, 1) := by decide +kernel
theorem dX0_enter_70 : decode cX0_enter 70 = .ok (.aload_n 0, 1) := by decide +kernel
theorem dX0_enter_71 : decode cX0_enter 71 = .ok (.getfield 19, 3) := by decide +kernel
theorem dX0_enter_74 : decode cX0_enter 74 = .ok (.iload 5, 2) := by decide +kernel
theorem dX0_enter_76 : decode cX0_enter 76 = .ok (.iload 4, 2) := by decide +kernel
theorem dX0_enter_78 : decode cX0_enter 78 = .ok (.iastore, 1) := by decide +kernel
theorem dX0_enter_79 : decode cX0_enter 79 = .ok (.aload_n 0, 1) := by decide +kernel
theorem dX0_enter_80 : decode cX0_enter 80 = .ok (.dup, 1) := by decide +kernel
theorem dX0_enter_81 : decode cX0_enter 81 = .ok (.getfield 22, 3) := by decide +kernel
theorem dX0_enter_84 : decode cX0_enter 84 = .ok (.iconst 1, 1) := by decide +kernel
theorem dX0_enter_85 : decode cX0_enter 85 = .ok (.iadd, 1) := by decide +kernel
theorem dX0_enter_86 : decode cX0_enter 86 = .ok (.putfield 22, 3) := by decide +kernel
theorem dX0_enter_89 : decode cX0_enter 89 = .ok (.aload_n 0, 1) := by decide +kernel
theorem dX0_enter_90 : decode cX0_enter 90 = .ok (.iconst 0, 1) := by decide +kernel
theorem dX0_enter_91 : decode cX0_enter 91 = .ok (.putfield 29, 3) := by decide +kernel
theorem dX0_enter_94 : decode cX0_enter 94 = .ok (.return_, 1) := by decide +kernel
theorem mv_X0_enter : MV yX0_enter cX0_enter 6 none 4 := ⟨q_493, q_494, q_67, q_495, by decide +kernel, by decide +kernel, by decide +kernel⟩
def f_X0_enter_b32 (σ : St) (x1 : Int32) (x2 : Int32) (x3 : Int32) (x4 : Int32) : Option St := bnd (((σ.1 6 0) + (σ.1 4 0)) - ((σ.1 6 0) + (σ.1 4 0)) / (40 : Int32) * (40 : Int32)) (fun v3 => chk (v3 < 0 ∨ 40 ≤ v3.toNatClampNeg) (chk (v3 < 0 ∨ 40 ≤ v3.toNatClampNeg) (bnd (sA (sA σ 0 0 (upd (σ.2.2.1 0 0) v3.toNatClampNeg x1)) 1 0 (upd ((sA σ 0 0 (upd (σ.2.2.1 0 0) v3.toNatClampNeg x1)).2.2.1 1 0) v3.toNatClampNeg x2)) (fun σ6 => chk (v3 < 0 ∨ 40 ≤ v3.toNatClampNeg) (chk (v3 < 0 ∨ 40 ≤ v3.toNatClampNeg) (bnd (sA (sA σ6 2 0 (upd (σ6.2.2.1 2 0) v3.toNatClampNeg x3)) 3 0 (upd ((sA σ6 2 0 (upd (σ6.2.2.1 2 0) v3.toNatClampNeg x3)).2.2.1 3 0) v3.toNatClampNeg x4)) (fun σ9 => bnd (sI (sI σ9 4 0 ((σ9.1 4 0) + (1 : Int32))) 5 0 (0 : Int32)) (fun σ10 => some σ10))))))))
def f_X0_enter (σ : St) (p1 : Int32) (p2 : Int32) (p3 : Int32) (p4 : Int32) : Option St := if σ.1 4 0 = (40 : Int32) then (bnd (sI σ 6 0 (((σ.1 6 0) + (1 : Int32)) - ((σ.1 6 0) + (1 : Int32)) / (40 : Int32) * (40 : Int32))) (fun σ2 => f_X0_enter_b32 (sI σ2 4 0 ((σ2.1 4 0) - (1 : Int32))) p1 p2 p3 p4)) else (f_X0_enter_b32 σ p1 p2 p3 p4)
set_option maxHeartbeats 4000000 in
set_option maxRecDepth 100000 in
theorem w_X0_enter_b32 {p : Program} {l : Launch} {e : Env} {s : State} {m : MethodId} {args : Array Value} {below : List Frame} {meth : Method} {c : Code} {g : va_G} {ts : ClassId × ClassId × ClassId} {A : Nat → Prop} {Q : State → Prop} {a : Nat → Nat} {σ' : St} (C : FX p s m args meth c RX0 cX0_enter 6 g ts A) (hQ : RetV p l e (rk 0 0) s m args below meth c cX0_enter g (WC ts a) A σ' Q) : ∀ (σ : St) (x1 : Int32) (x2 : Int32) (x3 : Int32) (x4 : Int32) (H : Heap) (locs : List Loc) (ls : Array Slot), f_X0_enter_b32 σ x1 x2 x3 x4 = some σ' → va_P g classes (WC ts a σ) H → va_D A (WC ts a σ) → va_S A s.heap H locs → lv_has ls 6 [(0, .ref (a 22)), (1, .int x1), (2, .int x2), (3, .int x3), (4, .int x4)] → W p l e (rk 0 0) s m args below meth c H locs 0 0 Q (F0 m 32 ls []) := by
  have hx := C.1
  have hb := C.2.1
  have hown := C.2.2.2.1
  have hts := C.2.2.2.2.1
  intro σ x1 x2 x3 x4 H locs ls hf hP hD hS hl
  rw [f_X0_enter_b32] at hf
  refine lv_aload_n hx hb dX0_enter_32 rfl (lv_at hl 0 rfl) ?_
  refine G_X0_first C hP q_277 dX0_enter_33 ?_
  refine lv_aload_n hx hb dX0_enter_36 rfl (lv_at hl 0 rfl) ?_
  refine G_X0_done C hP q_273 dX0_enter_37 ?_
  refine lv_iadd hx hb dX0_enter_40 ?_
  refine lv_bipush (v := 40) hx hb dX0_enter_41 (by decide) ?_
  refine lv_irem hx hb dX0_enter_43 (by decide) ?_
  refine lv_topi (fun v3 ev3 => ?_)
  replace hf := bnd_at ev3 hf
  refine lv_istore (lv' := [(5, .int v3), (0, .ref (a 22)), (1, .int x1), (2, .int x2), (3, .int x3), (4, .int x4)]) hx hb dX0_enter_44 hl (by decide) rfl (fun ls hl => ?_)
  refine lv_aload_n hx hb dX0_enter_46 rfl (lv_at hl 1 rfl) ?_
  refine G_X0_numbers C hP q_265 dX0_enter_47 ?_
  refine lv_iload hx hb dX0_enter_50 (lv_at hl 0 rfl) ?_
  refine lv_iload_n hx hb dX0_enter_52 rfl (lv_at hl 2 rfl) ?_
  obtain ⟨h4, hf⟩ := chk_some hf
  refine AS_X0_numbers C hP hD hS h4 dX0_enter_53 (fun H locs hP hD hS => ?_)
  refine lv_aload_n hx hb dX0_enter_54 rfl (lv_at hl 1 rfl) ?_
  refine G_X0_kinds C hP q_267 dX0_enter_55 ?_
  refine lv_iload hx hb dX0_enter_58 (lv_at hl 0 rfl) ?_
  refine lv_iload_n hx hb dX0_enter_60 rfl (lv_at hl 3 rfl) ?_
  obtain ⟨h5, hf⟩ := chk_some hf
  refine AS_X0_kinds C hP hD hS h5 dX0_enter_61 (fun H locs hP hD hS => ?_)
  refine nameS hP hD hf (fun σ6 hP hD hf => ?_)
  refine lv_aload_n hx hb dX0_enter_62 rfl (lv_at hl 1 rfl) ?_
  refine G_X0_before C hP q_269 dX0_enter_63 ?_
  refine lv_iload hx hb dX0_enter_66 (lv_at hl 0 rfl) ?_
  refine lv_iload_n hx hb dX0_enter_68 rfl (lv_at hl 4 rfl) ?_
  obtain ⟨h7, hf⟩ := chk_some hf
  refine AS_X0_before C hP hD hS h7 dX0_enter_69 (fun H locs hP hD hS => ?_)
  refine lv_aload_n hx hb dX0_enter_70 rfl (lv_at hl 1 rfl) ?_
  refine G_X0_behind C hP q_271 dX0_enter_71 ?_
  refine lv_iload hx hb dX0_enter_74 (lv_at hl 0 rfl) ?_
  refine lv_iload hx hb dX0_enter_76 (lv_at hl 5 rfl) ?_
  obtain ⟨h8, hf⟩ := chk_some hf
  refine AS_X0_behind C hP hD hS h8 dX0_enter_78 (fun H locs hP hD hS => ?_)
  refine nameS hP hD hf (fun σ9 hP hD hf => ?_)
  refine lv_aload_n hx hb dX0_enter_79 rfl (lv_at hl 1 rfl) ?_
  refine lv_dup hx hb dX0_enter_80 rfl ?_
  refine G_X0_done C hP q_273 dX0_enter_81 ?_
  refine lv_iconst (v := 1) hx hb dX0_enter_84 (by decide) ?_
  refine lv_iadd hx hb dX0_enter_85 ?_
  refine S_X0_done C hP hD hS q_273 dX0_enter_86 (fun H locs hP hD hS => ?_)
  refine lv_aload_n hx hb dX0_enter_89 rfl (lv_at hl 1 rfl) ?_
  refine lv_iconst (v := 0) hx hb dX0_enter_90 (by decide) ?_
  refine S_X0_undone C hP hD hS q_275 dX0_enter_91 (fun H locs hP hD hS => ?_)
  refine nameS hP hD hf (fun σ10 hP hD hf => ?_)
  exact retV hQ hf dX0_enter_94 hP hD hS
set_option maxHeartbeats 4000000 in
set_option maxRecDepth 100000 in
theorem c_X0_enter {l : Launch} {g : va_G} {ts : ClassId × ClassId × ClassId} {a : Nat → Nat} {σ : St} {p1 : Int32} {p2 : Int32} {p3 : Int32} {p4 : Int32} {σ' : St} (hf : f_X0_enter σ p1 p2 p3 p4 = some σ') : ConV l g ts (WC ts a) yX0_enter cX0_enter 6 none (rk 0 0) σ [.ref (a 22), .int p1, .int p2, .int p3, .int p4] σ' := by
  refine ConV_mk rfl rfl (by decide) (Nat.le_of_ble_eq_true rfl) ?_
  intro p e s m below meth c A Q ls C hQ hP hD hS hl
  have C : FX p s m _ meth c RX0 cX0_enter 6 g ts A := C
  have hx := C.1
  have hb := C.2.1
  have hown := C.2.2.2.1
  have hts := C.2.2.2.2.1
  have hl : lv_has ls 6 [(0, .ref (a 22)), (1, .int p1), (2, .int p2), (3, .int p3), (4, .int p4)] := hl
  rw [f_X0_enter] at hf
  refine lv_aload_n hx hb dX0_enter_0 rfl (lv_at hl 0 rfl) ?_
  refine G_X0_done C hP q_273 dX0_enter_1 ?_
  refine lv_bipush (v := 40) hx hb dX0_enter_4 (by decide) ?_
  refine lv_icmp_ne (tgt := 32) hx hb dX0_enter_6 (by decide) (fun c1 => ?_) (fun c1 => ?_)
  · replace hf := ineg c1 hf
    exact w_X0_enter_b32 C hQ _ _ _ _ _ _ _ _ hf hP hD hS (lv_sub hl [0, 1, 2, 3, 4] rfl)
  · replace hf := ipos c1 hf
    refine lv_aload_n hx hb dX0_enter_9 rfl (lv_at hl 0 rfl) ?_
    refine lv_aload_n hx hb dX0_enter_10 rfl (lv_at hl 0 rfl) ?_
    refine G_X0_first C hP q_277 dX0_enter_11 ?_
    refine lv_iconst (v := 1) hx hb dX0_enter_14 (by decide) ?_
    refine lv_iadd hx hb dX0_enter_15 ?_
    refine lv_bipush (v := 40) hx hb dX0_enter_16 (by decide) ?_
    refine lv_irem hx hb dX0_enter_18 (by decide) ?_
    refine S_X0_first C hP hD hS q_277 dX0_enter_19 (fun H locs hP hD hS => ?_)
    refine nameS hP hD hf (fun σ2 hP hD hf => ?_)
    refine lv_aload_n hx hb dX0_enter_22 rfl (lv_at hl 0 rfl) ?_
    refine lv_dup hx hb dX0_enter_23 rfl ?_
    refine G_X0_done C hP q_273 dX0_enter_24 ?_
    refine lv_iconst (v := 1) hx hb dX0_enter_27 (by decide) ?_
    refine lv_isub hx hb dX0_enter_28 ?_
    refine S_X0_done C hP hD hS q_273 dX0_enter_29 (fun H locs hP hD hS => ?_)
    exact w_X0_enter_b32 C hQ _ _ _ _ _ _ _ _ hf hP hD hS (lv_sub hl [0, 1, 2, 3, 4] rfl)
theorem dX0_stepBack_0 : decode cX0_stepBack 0 = .ok (.aload_n 0, 1) := by decide +kernel
theorem dX0_stepBack_1 : decode cX0_stepBack 1 = .ok (.getfield 22, 3) := by decide +kernel
theorem dX0_stepBack_4 : decode cX0_stepBack 4 = .ok (.ifCond .ne 5, 3) := by decide +kernel
theorem dX0_stepBack_7 : decode cX0_stepBack 7 = .ok (.iconst (-1), 1) := by decide +kernel
theorem dX0_stepBack_8 : decode cX0_stepBack 8 = .ok (.ireturn, 1) := by decide +kernel
theorem dX0_stepBack_9 : decode cX0_stepBack 9 = .ok (.aload_n 0, 1) := by decide +kernel
theorem dX0_stepBack_10 : decode cX0_stepBack 10 = .ok (.dup, 1) := by decide +kernel
theorem dX0_stepBack_11 : decode cX0_stepBack 11 = .ok (.getfield 22, 3) := by decide +kernel
theorem dX0_stepBack_14 : decode cX0_stepBack 14 = .ok (.iconst 1, 1) := by decide +kernel
theorem dX0_stepBack_15 : decode cX0_stepBack 15 = .ok (.isub, 1) := by decide +kernel
theorem dX0_stepBack_16 : decode cX0_stepBack 16 = .ok (.putfield 22, 3) := by decide +kernel
theorem dX0_stepBack_19 : decode cX0_stepBack 19 = .ok (.aload_n 0, 1) := by decide +kernel
theorem dX0_stepBack_20 : decode cX0_stepBack 20 = .ok (.dup, 1) := by decide +kernel
theorem dX0_stepBack_21 : decode cX0_stepBack 21 = .ok (.getfield 29, 3) := by decide +kernel
theorem dX0_stepBack_24 : decode cX0_stepBack 24 = .ok (.iconst 1, 1) := by decide +kernel
theorem dX0_stepBack_25 : decode cX0_stepBack 25 = .ok (.iadd, 1) := by decide +kernel
theorem dX0_stepBack_26 : decode cX0_stepBack 26 = .ok (.putfield 29, 3) := by decide +kernel
theorem dX0_stepBack_29 : decode cX0_stepBack 29 = .ok (.aload_n 0, 1) := by decide +kernel
theorem dX0_stepBack_30 : decode cX0_stepBack 30 = .ok (.getfield 26, 3) := by decide +kernel
theorem dX0_stepBack_33 : decode cX0_stepBack 33 = .ok (.aload_n 0, 1) := by decide +kernel
theorem dX0_stepBack_34 : decode cX0_stepBack 34 = .ok (.getfield 22, 3) := by decide +kernel
theorem dX0_stepBack_37 : decode cX0_stepBack 37 = .ok (.iadd, 1) := by decide +kernel
theorem dX0_stepBack_38 : decode cX0_stepBack 38 = .ok (.bipush 40, 2) := by decide +kernel
theorem dX0_stepBack_40 : decode cX0_stepBack 40 = .ok (.irem, 1) := by decide +kernel
theorem dX0_stepBack_41 : decode cX0_stepBack 41 = .ok (.ireturn, 1) := by decide +kernel
theorem mv_X0_stepBack : MV yX0_stepBack cX0_stepBack 1 (some .int) 0 := ⟨q_968, q_969, q_67, q_970, by decide +kernel, by decide +kernel, by decide +kernel⟩
def f_X0_stepBack (σ : St) : Option (Int32 × St) := if σ.1 4 0 = 0 then (some ((-1 : Int32), σ)) else (bnd (sI (sI σ 4 0 ((σ.1 4 0) - (1 : Int32))) 5 0 (((sI σ 4 0 ((σ.1 4 0) - (1 : Int32))).1 5 0) + (1 : Int32))) (fun σ2 => some (((σ2.1 6 0) + (σ2.1 4 0)) - ((σ2.1 6 0) + (σ2.1 4 0)) / (40 : Int32) * (40 : Int32), σ2)))
set_option maxHeartbeats 4000000 in
set_option maxRecDepth 100000 in
theorem c_X0_stepBack {l : Launch} {g : va_G} {ts : ClassId × ClassId × ClassId} {a : Nat → Nat} {σ : St} {r : Int32} {σ' : St} (hf : f_X0_stepBack σ = some (r, σ')) : ConI l g ts (WC ts a) yX0_stepBack cX0_stepBack 1 (some .int) (rk 0 0) σ [.ref (a 22)] r σ' := by
  refine ConI_mk .int rfl rfl rfl rfl (by decide) (Nat.le_of_ble_eq_true rfl) ?_
  intro p e s m below meth c A Q ls C hQ hP hD hS hl
  have C : FX p s m _ meth c RX0 cX0_stepBack 1 g ts A := C
  have hx := C.1
  have hb := C.2.1
  have hown := C.2.2.2.1
  have hts := C.2.2.2.2.1
  have hl : lv_has ls 1 [(0, .ref (a 22))] := hl
  rw [f_X0_stepBack] at hf
  refine lv_aload_n hx hb dX0_stepBack_0 rfl (lv_at hl 0 rfl) ?_
  refine G_X0_done C hP q_273 dX0_stepBack_1 ?_
  refine lv_if_ne (tgt := 9) hx hb dX0_stepBack_4 (by decide) (fun c1 => ?_) (fun c1 => ?_)
  · replace hf := ineg c1 hf
    refine lv_aload_n hx hb dX0_stepBack_9 rfl (lv_at hl 0 rfl) ?_
    refine lv_dup hx hb dX0_stepBack_10 rfl ?_
    refine G_X0_done C hP q_273 dX0_stepBack_11 ?_
    refine lv_iconst (v := 1) hx hb dX0_stepBack_14 (by decide) ?_
    refine lv_isub hx hb dX0_stepBack_15 ?_
    refine S_X0_done C hP hD hS q_273 dX0_stepBack_16 (fun H locs hP hD hS => ?_)
    refine lv_aload_n hx hb dX0_stepBack_19 rfl (lv_at hl 0 rfl) ?_
    refine lv_dup hx hb dX0_stepBack_20 rfl ?_
    refine G_X0_undone C hP q_275 dX0_stepBack_21 ?_
    refine lv_iconst (v := 1) hx hb dX0_stepBack_24 (by decide) ?_
    refine lv_iadd hx hb dX0_stepBack_25 ?_
    refine S_X0_undone C hP hD hS q_275 dX0_stepBack_26 (fun H locs hP hD hS => ?_)
    refine nameS hP hD hf (fun σ2 hP hD hf => ?_)
    refine lv_aload_n hx hb dX0_stepBack_29 rfl (lv_at hl 0 rfl) ?_
    refine G_X0_first C hP q_277 dX0_stepBack_30 ?_
    refine lv_aload_n hx hb dX0_stepBack_33 rfl (lv_at hl 0 rfl) ?_
    refine G_X0_done C hP q_273 dX0_stepBack_34 ?_
    refine lv_iadd hx hb dX0_stepBack_37 ?_
    refine lv_bipush (v := 40) hx hb dX0_stepBack_38 (by decide) ?_
    refine lv_irem hx hb dX0_stepBack_40 (by decide) ?_
    exact retI hQ hf dX0_stepBack_41 hP hD hS
  · replace hf := ipos c1 hf
    refine lv_iconst (v := -1) hx hb dX0_stepBack_7 (by decide) ?_
    exact retI hQ hf dX0_stepBack_8 hP hD hS
theorem dX8_hasRun_0 : decode cX8_hasRun 0 = .ok (.iload_n 1, 1) := by decide +kernel
theorem dX8_hasRun_1 : decode cX8_hasRun 1 = .ok (.ifCond .lt 17, 3) := by decide +kernel
theorem dX8_hasRun_4 : decode cX8_hasRun 4 = .ok (.iload_n 1, 1) := by decide +kernel
theorem dX8_hasRun_5 : decode cX8_hasRun 5 = .ok (.aload_n 0, 1) := by decide +kernel
theorem dX8_hasRun_6 : decode cX8_hasRun 6 = .ok (.getfield 22, 3) := by decide +kernel
theorem dX8_hasRun_9 : decode cX8_hasRun 9 = .ok (.iload_n 2, 1) := by decide +kernel
theorem dX8_hasRun_10 : decode cX8_hasRun 10 = .ok (.isub, 1) := by decide +kernel
theorem dX8_hasRun_11 : decode cX8_hasRun 11 = .ok (.if_icmp .gt 7, 3) := by decide +kernel
theorem dX8_hasRun_14 : decode cX8_hasRun 14 = .ok (.iconst 1, 1) := by decide +kernel
theorem dX8_hasRun_15 : decode cX8_hasRun 15 = .ok (.goto 4, 3) := by decide +kernel
theorem dX8_hasRun_18 : decode cX8_hasRun 18 = .ok (.iconst 0, 1) := by decide +kernel
theorem dX8_hasRun_19 : decode cX8_hasRun 19 = .ok (.ireturn, 1) := by decide +kernel
theorem mv_X8_hasRun : MV yX8_hasRun cX8_hasRun 3 (some .boolean) 2 := ⟨q_445, q_446, q_70, q_447, by decide +kernel, by decide +kernel, by decide +kernel⟩
def f_X8_hasRun0 (σ : St) (i0 : Nat) (p1 : Int32) (p2 : Int32) : Option (Int32 × St) := if p1 < 0 then (some ((0 : Int32), σ)) else (if (σ.1 403 i0) - p2 < p1 then (some ((0 : Int32), σ)) else (some ((1 : Int32), σ)))
def f_X8_hasRun (σ : St) (i0 : Nat) (p1 : Int32) (p2 : Int32) : Option (Int32 × St) := chkB (f_X8_hasRun0 σ i0 p1 p2)
set_option maxHeartbeats 4000000 in
set_option maxRecDepth 100000 in
theorem c_X8_hasRun {l : Launch} {g : va_G} {ts : ClassId × ClassId × ClassId} {a : Nat → Nat} {σ : St} {i0 : Nat} {p1 : Int32} {p2 : Int32} {r : Int32} {σ' : St} (hi0 : i0 < 6) (hf : f_X8_hasRun σ i0 p1 p2 = some (r, σ')) : ConI l g ts (WC ts a) yX8_hasRun cX8_hasRun 3 (some .boolean) (rk 0 0) σ [.ref (a (36 + 2 * i0)), .int p1, .int p2] r σ' := by
  rw [f_X8_hasRun] at hf
  obtain ⟨hf, hn⟩ := chkB_some hf
  refine ConI_mk .boolean rfl hn rfl rfl (by decide) (Nat.le_of_ble_eq_true rfl) ?_
  intro p e s m below meth c A Q ls C hQ hP hD hS hl
  have C : FX p s m _ meth c RX8 cX8_hasRun 3 g ts A := C
  have hx := C.1
  have hb := C.2.1
  have hown := C.2.2.2.1
  have hts := C.2.2.2.2.1
  have hl : lv_has ls 3 [(0, .ref (a (36 + 2 * i0))), (1, .int p1), (2, .int p2)] := hl
  rw [f_X8_hasRun0] at hf
  refine lv_iload_n hx hb dX8_hasRun_0 rfl (lv_at hl 1 rfl) ?_
  refine lv_if_lt (tgt := 18) hx hb dX8_hasRun_1 (by decide) (fun c1 => ?_) (fun c1 => ?_)
  · replace hf := ipos c1 hf
    refine lv_iconst (v := 0) hx hb dX8_hasRun_18 (by decide) ?_
    exact retI hQ hf dX8_hasRun_19 hP hD hS
  · replace hf := ineg c1 hf
    refine lv_iload_n hx hb dX8_hasRun_4 rfl (lv_at hl 1 rfl) ?_
    refine lv_aload_n hx hb dX8_hasRun_5 rfl (lv_at hl 0 rfl) ?_
    refine G_X8_length hi0 C hP q_369 dX8_hasRun_6 ?_
    refine lv_iload_n hx hb dX8_hasRun_9 rfl (lv_at hl 2 rfl) ?_
    refine lv_isub hx hb dX8_hasRun_10 ?_
    refine lv_icmp_gt (tgt := 18) hx hb dX8_hasRun_11 (by decide) (fun c2 => ?_) (fun c2 => ?_)
    · replace hf := ipos c2 hf
      refine lv_iconst (v := 0) hx hb dX8_hasRun_18 (by decide) ?_
      exact retI hQ hf dX8_hasRun_19 hP hD hS
    · replace hf := ineg c2 hf
      refine lv_iconst (v := 1) hx hb dX8_hasRun_14 (by decide) ?_
      refine lv_goto (tgt := 19) hx hb dX8_hasRun_15 (by decide) ?_
      exact retI hQ hf dX8_hasRun_19 hP hD hS
theorem dX8_letterAt_0 : decode cX8_letterAt 0 = .ok (.aload_n 0, 1) := by decide +kernel
theorem dX8_letterAt_1 : decode cX8_letterAt 1 = .ok (.iload_n 1, 1) := by decide +kernel
theorem dX8_letterAt_2 : decode cX8_letterAt 2 = .ok (.iconst 1, 1) := by decide +kernel
theorem dX8_letterAt_3 : decode cX8_letterAt 3 = .ok (.invokevirtual 35, 3) := by decide +kernel
theorem dX8_letterAt_6 : decode cX8_letterAt 6 = .ok (.ifCond .eq 25, 3) := by decide +kernel
theorem dX8_letterAt_9 : decode cX8_letterAt 9 = .ok (.aload_n 0, 1) := by decide +kernel
theorem dX8_letterAt_10 : decode cX8_letterAt 10 = .ok (.getfield 9, 3) := by decide +kernel
theorem dX8_letterAt_13 : decode cX8_letterAt 13 = .ok (.iload_n 1, 1) := by decide +kernel
theorem dX8_letterAt_14 : decode cX8_letterAt 14 = .ok (.laload, 1) := by decide +kernel
theorem dX8_letterAt_15 : decode cX8_letterAt 15 = .ok (.invokestatic 39, 3) := by decide +kernel
theorem dX8_letterAt_18 : decode cX8_letterAt 18 = .ok (.ifCond .eq 13, 3) := by decide +kernel
theorem dX8_letterAt_21 : decode cX8_letterAt 21 = .ok (.aload_n 0, 1) := by decide +kernel
theorem dX8_letterAt_22 : decode cX8_letterAt 22 = .ok (.getfield 9, 3) := by decide +kernel
theorem dX8_letterAt_25 : decode cX8_letterAt 25 = .ok (.iload_n 1, 1) := by decide +kernel
theorem dX8_letterAt_26 : decode cX8_letterAt 26 = .ok (.laload, 1) := by decide +kernel
theorem dX8_letterAt_27 : decode cX8_letterAt 27 = .ok (.l2i, 1) := by decide +kernel
theorem dX8_letterAt_28 : decode cX8_letterAt 28 = .ok (.goto 4, 3) := by decide +kernel
theorem dX8_letterAt_31 : decode cX8_letterAt 31 = .ok (.iconst (-1), 1) := by decide +kernel
theorem dX8_letterAt_32 : decode cX8_letterAt 32 = .ok (.ireturn, 1) := by decide +kernel
theorem mv_X8_letterAt : MV yX8_letterAt cX8_letterAt 2 (some .int) 1 := ⟨q_441, q_442, q_70, q_443, by decide +kernel, by decide +kernel, by decide +kernel⟩
def f_X8_letterAt (σ : St) (i0 : Nat) (p1 : Int32) : Option (Int32 × St) := bnd2 (f_X8_hasRun σ i0 p1 (1 : Int32)) (fun r2 σ3 => if r2 = 0 then (some ((-1 : Int32), σ3)) else (chk (p1 < 0 ∨ 60 ≤ p1.toNatClampNeg) (bnd1 (f_X11_isLetter (σ3.2.2.2.1 400 i0 p1.toNatClampNeg)) (fun r7 => if r7 = 0 then (some ((-1 : Int32), σ3)) else (chk (p1 < 0 ∨ 60 ≤ p1.toNatClampNeg) (some (((σ3.2.2.2.1 400 i0 p1.toNatClampNeg) : Int64).toInt32, σ3)))))))
set_option maxHeartbeats 4000000 in
set_option maxRecDepth 100000 in
theorem c_X8_letterAt {l : Launch} {g : va_G} {ts : ClassId × ClassId × ClassId} {a : Nat → Nat} {σ : St} {i0 : Nat} {p1 : Int32} {r : Int32} {σ' : St} (hi0 : i0 < 6) (hf : f_X8_letterAt σ i0 p1 = some (r, σ')) : ConI l g ts (WC ts a) yX8_letterAt cX8_letterAt 2 (some .int) (rk 1 22) σ [.ref (a (36 + 2 * i0)), .int p1] r σ' := by
  refine ConI_mk .int rfl rfl rfl rfl (by decide) (Nat.le_of_ble_eq_true rfl) ?_
  intro p e s m below meth c A Q ls C hQ hP hD hS hl
  have C : FX p s m _ meth c RX8 cX8_letterAt 2 g ts A := C
  have hx := C.1
  have hb := C.2.1
  have hown := C.2.2.2.1
  have hts := C.2.2.2.2.1
  have hl : lv_has ls 2 [(0, .ref (a (36 + 2 * i0))), (1, .int p1)] := hl
  rw [f_X8_letterAt] at hf
  refine lv_aload_n hx hb dX8_letterAt_0 rfl (lv_at hl 0 rfl) ?_
  refine lv_iload_n hx hb dX8_letterAt_1 rfl (lv_at hl 1 rfl) ?_
  refine lv_iconst (v := 1) hx hb dX8_letterAt_2 (by decide) ?_
  obtain ⟨r2, σ3, h1, hf⟩ := bnd2_some hf
  refine vI [] C hP hD hS (c_X8_hasRun hi0 h1) mv_X8_hasRun q_444 (rv_X8 hi0) dX8_letterAt_3 ⟨Nat.le_of_ble_eq_true rfl, Nat.le_of_ble_eq_true rfl⟩ ⟨Nat.zero_le _, Nat.zero_le _⟩ rfl rfl (Nat.le_of_ble_eq_true rfl) hl.1 (fun H locs hP hD hS => ?_)
  refine lv_if_eq (tgt := 31) hx hb dX8_letterAt_6 (by decide) (fun c4 => ?_) (fun c4 => ?_)
  · replace hf := ipos c4 hf
    refine lv_iconst (v := -1) hx hb dX8_letterAt_31 (by decide) ?_
    exact retI hQ hf dX8_letterAt_32 hP hD hS
  · replace hf := ineg c4 hf
    refine lv_aload_n hx hb dX8_letterAt_9 rfl (lv_at hl 0 rfl) ?_
    refine G_X8_elements hi0 C hP q_361 dX8_letterAt_10 ?_
    refine lv_iload_n hx hb dX8_letterAt_13 rfl (lv_at hl 1 rfl) ?_
    obtain ⟨h5, hf⟩ := chk_some hf
    refine AL_X8_elements hi0 C hP h5 dX8_letterAt_14 ?_
    obtain ⟨r7, h6, hf⟩ := bnd1_some hf
    refine tnI (host := RX11) [] C hP hD hS (c_X11_isLetter h6) ms_X11_isLetter (by decide +kernel) dX8_letterAt_15 ⟨Nat.le_of_ble_eq_true rfl, Nat.le_of_ble_eq_true rfl⟩ ⟨Nat.zero_le _, Nat.zero_le _⟩ rfl rfl (Nat.le_of_ble_eq_true rfl) hl.1 (fun H locs hP hD hS => ?_)
    refine lv_if_eq (tgt := 31) hx hb dX8_letterAt_18 (by decide) (fun c8 => ?_) (fun c8 => ?_)
    · replace hf := ipos c8 hf
      refine lv_iconst (v := -1) hx hb dX8_letterAt_31 (by decide) ?_
      exact retI hQ hf dX8_letterAt_32 hP hD hS
    · replace hf := ineg c8 hf
      refine lv_aload_n hx hb dX8_letterAt_21 rfl (lv_at hl 0 rfl) ?_
      refine G_X8_elements hi0 C hP q_361 dX8_letterAt_22 ?_
      refine lv_iload_n hx hb dX8_letterAt_25 rfl (lv_at hl 1 rfl) ?_
      obtain ⟨h9, hf⟩ := chk_some hf
      refine AL_X8_elements hi0 C hP h9 dX8_letterAt_26 ?_
      refine lv_l2i (v := ((σ3.2.2.2.1 400 i0 p1.toNatClampNeg) : Int64).toInt32) hx hb dX8_letterAt_27 rfl ?_
      refine lv_goto (tgt := 32) hx hb dX8_letterAt_28 (by decide) ?_
      exact retI hQ hf dX8_letterAt_32 hP hD hS
theorem dX8_spells_0 : decode cX8_spells 0 = .ok (.iconst 0, 1) := by decide +kernel
theorem dX8_spells_1 : decode cX8_spells 1 = .ok (.istore_n 3, 1) := by decide +kernel
theorem dX8_spells_2 : decode cX8_spells 2 = .ok (.iload_n 3, 1) := by decide +kernel
theorem dX8_spells_3 : decode cX8_spells 3 = .ok (.iload_n 2, 1) := by decide +kernel
theorem dX8_spells_4 : decode cX8_spells 4 = .ok (.if_icmp .ge 21, 3) := by decide +kernel
theorem dX8_spells_7 : decode cX8_spells 7 = .ok (.aload_n 0, 1) := by decide +kernel
theorem dX8_spells_8 : decode cX8_spells 8 = .ok (.iload_n 1, 1) := by decide +kernel
theorem dX8_spells_9 : decode cX8_spells 9 = .ok (.iload_n 3, 1) := by decide +kernel
theorem dX8_spells_10 : decode cX8_spells 10 = .ok (.iadd, 1) := by decide +kernel
theorem dX8_spells_11 : decode cX8_spells 11 = .ok (.invokevirtual 43, 3) := by decide +kernel
theorem dX8_spells_14 : decode cX8_spells 14 = .ok (.ifCond .ge 5, 3) := by decide +kernel
theorem dX8_spells_17 : decode cX8_spells 17 = .ok (.iconst 0, 1) := by decide +kernel
theorem dX8_spells_18 : decode cX8_spells 18 = .ok (.ireturn, 1) := by decide +kernel
theorem dX8_spells_19 : decode cX8_spells 19 = .ok (.iinc 3 1, 3) := by decide +kernel
theorem dX8_spells_22 : decode cX8_spells 22 = .ok (.goto (-20), 3) := by decide +kernel
theorem dX8_spells_25 : decode cX8_spells 25 = .ok (.iconst 1, 1) := by decide +kernel
theorem dX8_spells_26 : decode cX8_spells 26 = .ok (.ireturn, 1) := by decide +kernel
theorem mv_X8_spells : MV yX8_spells cX8_spells 4 (some .boolean) 2 := ⟨q_437, q_438, q_70, q_439, by decide +kernel, by decide +kernel, by decide +kernel⟩
def f_X8_spells_b2 : Nat → St → Nat → Int32 → Int32 → Int32 → Option (Int32 × St)
  | 0, _, _, _, _, _ => none
  | n + 1, σ, o0, x1, x2, x3 => if x2 ≤ x3 then (some ((1 : Int32), σ)) else (bnd2 (f_X8_letterAt σ o0 (x1 + x3)) (fun r3 σ4 => if 0 ≤ r3 then (bnd (x3 + 1) (fun v6 => f_X8_spells_b2 n σ4 o0 x1 x2 v6)) else (some ((0 : Int32), σ4))))
def f_X8_spells0 (σ : St) (i0 : Nat) (p1 : Int32) (p2 : Int32) : Option (Int32 × St) := f_X8_spells_b2 256 σ i0 p1 p2 (0 : Int32)
def f_X8_spells (σ : St) (i0 : Nat) (p1 : Int32) (p2 : Int32) : Option (Int32 × St) := chkB (f_X8_spells0 σ i0 p1 p2)
set_option maxHeartbeats 4000000 in
set_option maxRecDepth 100000 in
theorem w_X8_spells_b2 {p : Program} {l : Launch} {e : Env} {s : State} {m : MethodId} {args : Array Value} {below : List Frame} {meth : Method} {c : Code} {g : va_G} {ts : ClassId × ClassId × ClassId} {A : Nat → Prop} {Q : State → Prop} {a : Nat → Nat} {r : Int32} {σ' : St} (C : FX p s m args meth c RX8 cX8_spells 4 g ts A) (hQ : RetI p l e (rk 2 43) s m args below meth c cX8_spells g (WC ts a) A r σ' Q) : ∀ (n : Nat) (σ : St) (o0 : Nat) (x1 : Int32) (x2 : Int32) (x3 : Int32) (H : Heap) (locs : List Loc) (ls : Array Slot), f_X8_spells_b2 n σ o0 x1 x2 x3 = some (r, σ') → va_P g classes (WC ts a σ) H → va_D A (WC ts a σ) → va_S A s.heap H locs → o0 < 6 → lv_has ls 4 [(0, .ref (a (36 + 2 * o0))), (1, .int x1), (2, .int x2), (3, .int x3)] → W p l e (rk 2 43) s m args below meth c H locs 0 0 Q (F0 m 2 ls []) := by
  have hx := C.1
  have hb := C.2.1
  have hown := C.2.2.2.1
  have hts := C.2.2.2.2.1
  intro n
  induction n with
  | zero =>
    intro σ o0 x1 x2 x3 H locs ls hf
    cases hf
  | succ n ih =>
    intro σ o0 x1 x2 x3 H locs ls hf hP hD hS ho0 hl
    rw [f_X8_spells_b2] at hf
    refine lv_iload_n hx hb dX8_spells_2 rfl (lv_at hl 3 rfl) ?_
    refine lv_iload_n hx hb dX8_spells_3 rfl (lv_at hl 2 rfl) ?_
    refine lv_icmp_ge (tgt := 25) hx hb dX8_spells_4 (by decide) (fun c1 => ?_) (fun c1 => ?_)
    · replace hf := ipos c1 hf
      refine lv_iconst (v := 1) hx hb dX8_spells_25 (by decide) ?_
      exact retI hQ hf dX8_spells_26 hP hD hS
    · replace hf := ineg c1 hf
      refine lv_aload_n hx hb dX8_spells_7 rfl (lv_at hl 0 rfl) ?_
      refine lv_iload_n hx hb dX8_spells_8 rfl (lv_at hl 1 rfl) ?_
      refine lv_iload_n hx hb dX8_spells_9 rfl (lv_at hl 3 rfl) ?_
      refine lv_iadd hx hb dX8_spells_10 ?_
      obtain ⟨r3, σ4, h2, hf⟩ := bnd2_some hf
      refine vI [] C hP hD hS (c_X8_letterAt ho0 h2) mv_X8_letterAt q_440 (rv_X8 ho0) dX8_spells_11 ⟨Nat.le_of_ble_eq_true rfl, Nat.le_of_ble_eq_true rfl⟩ ⟨Nat.zero_le _, Nat.zero_le _⟩ rfl rfl (Nat.le_of_ble_eq_true rfl) hl.1 (fun H locs hP hD hS => ?_)
      refine lv_if_ge (tgt := 19) hx hb dX8_spells_14 (by decide) (fun c5 => ?_) (fun c5 => ?_)
      · replace hf := ipos c5 hf
        obtain ⟨v6, ev6⟩ : ∃ z : Int32, z = x3 + 1 := ⟨_, rfl⟩
        replace hf := bnd_at ev6 hf
        refine lv_iinc (v := v6) (lv' := [(3, .int v6), (0, .ref (a (36 + 2 * o0))), (1, .int x1), (2, .int x2)]) hx hb dX8_spells_19 hl (k := 3) rfl (by rw [ev6]; rfl) (by decide) rfl (fun ls hl => ?_)
        refine lv_goto (tgt := 2) hx hb dX8_spells_22 (by decide) ?_
        exact ih _ _ _ _ _ _ _ _ hf hP hD hS ho0 (lv_sub hl [1, 2, 3, 0] rfl)
      · replace hf := ineg c5 hf
        refine lv_iconst (v := 0) hx hb dX8_spells_17 (by decide) ?_
        exact retI hQ hf dX8_spells_18 hP hD hS
set_option maxHeartbeats 4000000 in
set_option maxRecDepth 100000 in
theorem c_X8_spells {l : Launch} {g : va_G} {ts : ClassId × ClassId × ClassId} {a : Nat → Nat} {σ : St} {i0 : Nat} {p1 : Int32} {p2 : Int32} {r : Int32} {σ' : St} (hi0 : i0 < 6) (hf : f_X8_spells σ i0 p1 p2 = some (r, σ')) : ConI l g ts (WC ts a) yX8_spells cX8_spells 4 (some .boolean) (rk 2 43) σ [.ref (a (36 + 2 * i0)), .int p1, .int p2] r σ' := by
  rw [f_X8_spells] at hf
  obtain ⟨hf, hn⟩ := chkB_some hf
  refine ConI_mk .boolean rfl hn rfl rfl (by decide) (Nat.le_of_ble_eq_true rfl) ?_
  intro p e s m below meth c A Q ls C hQ hP hD hS hl
  have C : FX p s m _ meth c RX8 cX8_spells 4 g ts A := C
  have hx := C.1
  have hb := C.2.1
  have hown := C.2.2.2.1
  have hts := C.2.2.2.2.1
  have hl : lv_has ls 4 [(0, .ref (a (36 + 2 * i0))), (1, .int p1), (2, .int p2)] := hl
  rw [f_X8_spells0] at hf
  refine lv_iconst (v := 0) hx hb dX8_spells_0 (by decide) ?_
  refine lv_istore_n (lv' := [(3, .int (0 : Int32)), (0, .ref (a (36 + 2 * i0))), (1, .int p1), (2, .int p2)]) hx hb dX8_spells_1 rfl hl (by decide) rfl (fun ls hl => ?_)
  exact w_X8_spells_b2 C hQ 256 _ _ _ _ _ _ _ _ hf hP hD hS hi0 (lv_sub hl [1, 2, 3, 0] rfl)
