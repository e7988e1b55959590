theorem ms_X12_within : MS yX12_within cX12_within 6 (some .boolean) 3 := ⟨q_1219, q_71, q_1220, by decide +kernel, by decide +kernel, by decide +kernel⟩
theorem ms_X12_isIn : MS yX12_isIn cX12_isIn 2 (some .boolean) 2 := ⟨q_1398, q_71, q_1399, by decide +kernel, by decide +kernel, by decide +kernel⟩
theorem ms_X12_isLetter : MS yX12_isLetter cX12_isLetter 2 (some .boolean) 1 := ⟨q_1231, q_71, q_1232, by decide +kernel, by decide +kernel, by decide +kernel⟩
theorem ms_X12_isShelf : MS yX12_isShelf cX12_isShelf 1 (some .boolean) 1 := ⟨q_1215, q_71, q_1216, by decide +kernel, by decide +kernel, by decide +kernel⟩
theorem ms_X12_isTwo : MS yX12_isTwo cX12_isTwo 1 (some .boolean) 1 := ⟨q_1247, q_71, q_1248, by decide +kernel, by decide +kernel, by decide +kernel⟩
theorem ms_X12_alikeAt : MS yX12_alikeAt cX12_alikeAt 2 (some .int) 2 := ⟨q_1250, q_71, q_1251, by decide +kernel, by decide +kernel, by decide +kernel⟩
theorem ms_X12_nameOf : MS yX12_nameOf cX12_nameOf 1 (some .int) 1 := ⟨q_1320, q_71, q_1321, by decide +kernel, by decide +kernel, by decide +kernel⟩
theorem ms_X12_commonOf : MS yX12_commonOf cX12_commonOf 10 (some .long) 2 := ⟨q_1335, q_71, q_1336, by decide +kernel, by decide +kernel, by decide +kernel⟩
theorem ms_X12_partOf : MS yX12_partOf cX12_partOf 7 (some .long) 3 := ⟨q_1332, q_71, q_1333, by decide +kernel, by decide +kernel, by decide +kernel⟩
theorem ms_X12_powerOf : MS yX12_powerOf cX12_powerOf 4 (some .long) 1 := ⟨q_1401, q_71, q_1402, by decide +kernel, by decide +kernel, by decide +kernel⟩
theorem ms_X12_above : MS yX12_above cX12_above 1 (some .int) 1 := ⟨q_1590, q_71, q_1591, by decide +kernel, by decide +kernel, by decide +kernel⟩
theorem ms_X12_asSort : MS yX12_asSort cX12_asSort 3 (some .long) 2 := ⟨q_1571, q_71, q_1572, by decide +kernel, by decide +kernel, by decide +kernel⟩
theorem dX12_within_0 : decode cX12_within 0 = .ok (.lload_n 0, 1) := by decide +kernel
theorem dX12_within_1 : decode cX12_within 1 = .ok (.lload_n 2, 1) := by decide +kernel
theorem dX12_within_2 : decode cX12_within 2 = .ok (.lcmp, 1) := by decide +kernel
theorem dX12_within_3 : decode cX12_within 3 = .ok (.ifCond .lt 14, 3) := by decide +kernel
theorem dX12_within_6 : decode cX12_within 6 = .ok (.lload_n 0, 1) := by decide +kernel
theorem dX12_within_7 : decode cX12_within 7 = .ok (.lload 4, 2) := by decide +kernel
theorem dX12_within_9 : decode cX12_within 9 = .ok (.lcmp, 1) := by decide +kernel
theorem dX12_within_10 : decode cX12_within 10 = .ok (.ifCond .gt 7, 3) := by decide +kernel
theorem dX12_within_13 : decode cX12_within 13 = .ok (.iconst 1, 1) := by decide +kernel
theorem dX12_within_14 : decode cX12_within 14 = .ok (.goto 4, 3) := by decide +kernel
theorem dX12_within_17 : decode cX12_within 17 = .ok (.iconst 0, 1) := by decide +kernel
theorem dX12_within_18 : decode cX12_within 18 = .ok (.ireturn, 1) := by decide +kernel
def f_X12_within0 (p1 : Int64) (p2 : Int64) (p3 : Int64) : Option Int32 := if p1 < p2 then (some (0 : Int32)) else (if p3 < p1 then (some (0 : Int32)) else (some (1 : Int32)))
def f_X12_within (p1 : Int64) (p2 : Int64) (p3 : Int64) : Option Int32 := chkB1 (f_X12_within0 p1 p2 p3)
set_option maxHeartbeats 4000000 in
set_option maxRecDepth 100000 in
theorem c_X12_within {l : Launch} {g : va_G} {ts : ClassId × ClassId × ClassId} {wf : St → va_W} {σ : St} {p1 : Int64} {p2 : Int64} {p3 : Int64} {r : Int32} (hf : f_X12_within p1 p2 p3 = some r) : ConI l g ts (wf) yX12_within cX12_within 6 (some .boolean) (rk 0 0) σ [.long p1, .long p2, .long p3] r σ := by
  rw [f_X12_within] at hf
  obtain ⟨hf, hn⟩ := chkB1_some hf
  refine ConI_mk .boolean rfl hn rfl rfl (by decide) (Nat.le_of_ble_eq_true rfl) ?_
  intro p e s m below meth c A Q ls C hQ hP hD hS hl
  have C : FX p s m _ meth c RX12 cX12_within 6 g ts A := C
  have hx := C.1
  have hb := C.2.1
  have hown := C.2.2.2.1
  have hts := C.2.2.2.2.1
  have hl : lv_has ls 6 [(0, .long p1), (2, .long p2), (4, .long p3)] := hl
  rw [f_X12_within0] at hf
  refine lv_lload_n hx hb dX12_within_0 rfl (lv_at hl 0 rfl) ?_
  refine lv_lload_n hx hb dX12_within_1 rfl (lv_at hl 1 rfl) ?_
  refine lb_lt (tgt := 17) hx hb dX12_within_2 dX12_within_3 (by decide) (fun c1 => ?_) (fun c1 => ?_)
  · replace hf := ipos c1 hf
    refine lv_iconst (v := 0) hx hb dX12_within_17 (by decide) ?_
    exact retIp hQ hf dX12_within_18 hP hD hS
  · replace hf := ineg c1 hf
    refine lv_lload_n hx hb dX12_within_6 rfl (lv_at hl 0 rfl) ?_
    refine lv_lload hx hb dX12_within_7 (lv_at hl 2 rfl) ?_
    refine lb_gt (tgt := 17) hx hb dX12_within_9 dX12_within_10 (by decide) (fun c2 => ?_) (fun c2 => ?_)
    · replace hf := ipos c2 hf
      refine lv_iconst (v := 0) hx hb dX12_within_17 (by decide) ?_
      exact retIp hQ hf dX12_within_18 hP hD hS
    · replace hf := ineg c2 hf
      refine lv_iconst (v := 1) hx hb dX12_within_13 (by decide) ?_
      refine lv_goto (tgt := 18) hx hb dX12_within_14 (by decide) ?_
      exact retIp hQ hf dX12_within_18 hP hD hS
theorem dX12_isIn_0 : decode cX12_isIn 0 = .ok (.iload_n 0, 1) := by decide +kernel
theorem dX12_isIn_1 : decode cX12_isIn 1 = .ok (.iload_n 1, 1) := by decide +kernel
theorem dX12_isIn_2 : decode cX12_isIn 2 = .ok (.ishr, 1) := by decide +kernel
theorem dX12_isIn_3 : decode cX12_isIn 3 = .ok (.iconst 1, 1) := by decide +kernel
theorem dX12_isIn_4 : decode cX12_isIn 4 = .ok (.iand, 1) := by decide +kernel
theorem dX12_isIn_5 : decode cX12_isIn 5 = .ok (.iconst 1, 1) := by decide +kernel
theorem dX12_isIn_6 : decode cX12_isIn 6 = .ok (.if_icmp .ne 7, 3) := by decide +kernel
theorem dX12_isIn_9 : decode cX12_isIn 9 = .ok (.iconst 1, 1) := by decide +kernel
theorem dX12_isIn_10 : decode cX12_isIn 10 = .ok (.goto 4, 3) := by decide +kernel
theorem dX12_isIn_13 : decode cX12_isIn 13 = .ok (.iconst 0, 1) := by decide +kernel
theorem dX12_isIn_14 : decode cX12_isIn 14 = .ok (.ireturn, 1) := by decide +kernel
def f_X12_isIn0 (p1 : Int32) (p2 : Int32) : Option Int32 := if (p1 >>> (p2 &&& 31)) &&& (1 : Int32) = (1 : Int32) then (some (1 : Int32)) else (some (0 : Int32))
def f_X12_isIn (p1 : Int32) (p2 : Int32) : Option Int32 := chkB1 (f_X12_isIn0 p1 p2)
set_option maxHeartbeats 4000000 in
set_option maxRecDepth 100000 in
theorem c_X12_isIn {l : Launch} {g : va_G} {ts : ClassId × ClassId × ClassId} {wf : St → va_W} {σ : St} {p1 : Int32} {p2 : Int32} {r : Int32} (hf : f_X12_isIn p1 p2 = some r) : ConI l g ts (wf) yX12_isIn cX12_isIn 2 (some .boolean) (rk 0 0) σ [.int p1, .int p2] r σ := by
  rw [f_X12_isIn] at hf
  obtain ⟨hf, hn⟩ := chkB1_some hf
  refine ConI_mk .boolean rfl hn rfl rfl (by decide) (Nat.le_of_ble_eq_true rfl) ?_
  intro p e s m below meth c A Q ls C hQ hP hD hS hl
  have C : FX p s m _ meth c RX12 cX12_isIn 2 g ts A := C
  have hx := C.1
  have hb := C.2.1
  have hown := C.2.2.2.1
  have hts := C.2.2.2.2.1
  have hl : lv_has ls 2 [(0, .int p1), (1, .int p2)] := hl
  rw [f_X12_isIn0] at hf
  refine lv_iload_n hx hb dX12_isIn_0 rfl (lv_at hl 0 rfl) ?_
  refine lv_iload_n hx hb dX12_isIn_1 rfl (lv_at hl 1 rfl) ?_
  refine lv_ishr hx hb dX12_isIn_2 ?_
  refine lv_iconst (v := 1) hx hb dX12_isIn_3 (by decide) ?_
  refine lv_iand hx hb dX12_isIn_4 ?_
  refine lv_iconst (v := 1) hx hb dX12_isIn_5 (by decide) ?_
  refine lv_icmp_ne (tgt := 13) hx hb dX12_isIn_6 (by decide) (fun c1 => ?_) (fun c1 => ?_)
  · replace hf := ineg c1 hf
    refine lv_iconst (v := 0) hx hb dX12_isIn_13 (by decide) ?_
    exact retIp hQ hf dX12_isIn_14 hP hD hS
  · replace hf := ipos c1 hf
    refine lv_iconst (v := 1) hx hb dX12_isIn_9 (by decide) ?_
    refine lv_goto (tgt := 14) hx hb dX12_isIn_10 (by decide) ?_
    exact retIp hQ hf dX12_isIn_14 hP hD hS
theorem dX12_isLetter_0 : decode cX12_isLetter 0 = .ok (.lload_n 0, 1) := by decide +kernel
theorem dX12_isLetter_1 : decode cX12_isLetter 1 = .ok (.lconst 0, 1) := by decide +kernel
theorem dX12_isLetter_2 : decode cX12_isLetter 2 = .ok (.ldc2_w 89, 3) := by decide +kernel
theorem dX12_isLetter_5 : decode cX12_isLetter 5 = .ok (.invokestatic 91, 3) := by decide +kernel
theorem dX12_isLetter_8 : decode cX12_isLetter 8 = .ok (.ireturn, 1) := by decide +kernel
def f_X12_isLetter0 (p1 : Int64) : Option Int32 := bnd1 (f_X12_within p1 (0 : Int64) (11 : Int64)) (fun r2 => some r2)
def f_X12_isLetter (p1 : Int64) : Option Int32 := chkB1 (f_X12_isLetter0 p1)
set_option maxHeartbeats 4000000 in
set_option maxRecDepth 100000 in
theorem c_X12_isLetter {l : Launch} {g : va_G} {ts : ClassId × ClassId × ClassId} {wf : St → va_W} {σ : St} {p1 : Int64} {r : Int32} (hf : f_X12_isLetter p1 = some r) : ConI l g ts (wf) yX12_isLetter cX12_isLetter 2 (some .boolean) (rk 1 25) σ [.long p1] r σ := by
  rw [f_X12_isLetter] at hf
  obtain ⟨hf, hn⟩ := chkB1_some hf
  refine ConI_mk .boolean rfl hn rfl rfl (by decide) (Nat.le_of_ble_eq_true rfl) ?_
  intro p e s m below meth c A Q ls C hQ hP hD hS hl
  have C : FX p s m _ meth c RX12 cX12_isLetter 2 g ts A := C
  have hx := C.1
  have hb := C.2.1
  have hown := C.2.2.2.1
  have hts := C.2.2.2.2.1
  have hl : lv_has ls 2 [(0, .long p1)] := hl
  rw [f_X12_isLetter0] at hf
  refine lv_lload_n hx hb dX12_isLetter_0 rfl (lv_at hl 0 rfl) ?_
  refine lv_lconst (v := 0) hx hb dX12_isLetter_1 (by decide) ?_
  refine lv_ldc2 hx hb hown (hts _ q_1233) dX12_isLetter_2 ?_
  obtain ⟨r2, h1, hf⟩ := bnd1_some hf
  refine tI [] C hP hD hS (c_X12_within h1) ms_X12_within q_1218 dX12_isLetter_5 ⟨Nat.le_of_ble_eq_true rfl, Nat.le_of_ble_eq_true rfl⟩ ⟨Nat.zero_le _, Nat.zero_le _⟩ rfl rfl (Nat.le_of_ble_eq_true rfl) hl.1 (fun H locs hP hD hS => ?_)
  exact retIp hQ hf dX12_isLetter_8 hP hD hS
theorem dX12_isShelf_0 : decode cX12_isShelf 0 = .ok (.iload_n 0, 1) := by decide +kernel
theorem dX12_isShelf_1 : decode cX12_isShelf 1 = .ok (.i2l, 1) := by decide +kernel
theorem dX12_isShelf_2 : decode cX12_isShelf 2 = .ok (.lconst 0, 1) := by decide +kernel
theorem dX12_isShelf_3 : decode cX12_isShelf 3 = .ok (.ldc2_w 287, 3) := by decide +kernel
theorem dX12_isShelf_6 : decode cX12_isShelf 6 = .ok (.invokestatic 91, 3) := by decide +kernel
theorem dX12_isShelf_9 : decode cX12_isShelf 9 = .ok (.ireturn, 1) := by decide +kernel
def f_X12_isShelf0 (p1 : Int32) : Option Int32 := bnd1 (f_X12_within ((p1 : Int32).toInt64) (0 : Int64) (5 : Int64)) (fun r2 => some r2)
def f_X12_isShelf (p1 : Int32) : Option Int32 := chkB1 (f_X12_isShelf0 p1)
set_option maxHeartbeats 4000000 in
set_option maxRecDepth 100000 in
theorem c_X12_isShelf {l : Launch} {g : va_G} {ts : ClassId × ClassId × ClassId} {wf : St → va_W} {σ : St} {p1 : Int32} {r : Int32} (hf : f_X12_isShelf p1 = some r) : ConI l g ts (wf) yX12_isShelf cX12_isShelf 1 (some .boolean) (rk 1 25) σ [.int p1] r σ := by
  rw [f_X12_isShelf] at hf
  obtain ⟨hf, hn⟩ := chkB1_some hf
  refine ConI_mk .boolean rfl hn rfl rfl (by decide) (Nat.le_of_ble_eq_true rfl) ?_
  intro p e s m below meth c A Q ls C hQ hP hD hS hl
  have C : FX p s m _ meth c RX12 cX12_isShelf 1 g ts A := C
  have hx := C.1
  have hb := C.2.1
  have hown := C.2.2.2.1
  have hts := C.2.2.2.2.1
  have hl : lv_has ls 1 [(0, .int p1)] := hl
  rw [f_X12_isShelf0] at hf
  refine lv_iload_n hx hb dX12_isShelf_0 rfl (lv_at hl 0 rfl) ?_
  refine lv_i2l (v := (p1 : Int32).toInt64) hx hb dX12_isShelf_1 rfl ?_
  refine lv_lconst (v := 0) hx hb dX12_isShelf_2 (by decide) ?_
  refine lv_ldc2 hx hb hown (hts _ q_1217) dX12_isShelf_3 ?_
  obtain ⟨r2, h1, hf⟩ := bnd1_some hf
  refine tI [] C hP hD hS (c_X12_within h1) ms_X12_within q_1218 dX12_isShelf_6 ⟨Nat.le_of_ble_eq_true rfl, Nat.le_of_ble_eq_true rfl⟩ ⟨Nat.zero_le _, Nat.zero_le _⟩ rfl rfl (Nat.le_of_ble_eq_true rfl) hl.1 (fun H locs hP hD hS => ?_)
  exact retIp hQ hf dX12_isShelf_9 hP hD hS
theorem dX12_isTwo_0 : decode cX12_isTwo 0 = .ok (.iload_n 0, 1) := by decide +kernel
theorem dX12_isTwo_1 : decode cX12_isTwo 1 = .ok (.ifCond .lt 29, 3) := by decide +kernel
theorem dX12_isTwo_4 : decode cX12_isTwo 4 = .ok (.iload_n 0, 1) := by decide +kernel
theorem dX12_isTwo_5 : decode cX12_isTwo 5 = .ok (.bipush 100, 2) := by decide +kernel
theorem dX12_isTwo_7 : decode cX12_isTwo 7 = .ok (.idiv, 1) := by decide +kernel
theorem dX12_isTwo_8 : decode cX12_isTwo 8 = .ok (.i2l, 1) := by decide +kernel
theorem dX12_isTwo_9 : decode cX12_isTwo 9 = .ok (.invokestatic 112, 3) := by decide +kernel
theorem dX12_isTwo_12 : decode cX12_isTwo 12 = .ok (.ifCond .eq 18, 3) := by decide +kernel
theorem dX12_isTwo_15 : decode cX12_isTwo 15 = .ok (.iload_n 0, 1) := by decide +kernel
theorem dX12_isTwo_16 : decode cX12_isTwo 16 = .ok (.bipush 100, 2) := by decide +kernel
theorem dX12_isTwo_18 : decode cX12_isTwo 18 = .ok (.irem, 1) := by decide +kernel
theorem dX12_isTwo_19 : decode cX12_isTwo 19 = .ok (.i2l, 1) := by decide +kernel
theorem dX12_isTwo_20 : decode cX12_isTwo 20 = .ok (.invokestatic 112, 3) := by decide +kernel
theorem dX12_isTwo_23 : decode cX12_isTwo 23 = .ok (.ifCond .eq 7, 3) := by decide +kernel
theorem dX12_isTwo_26 : decode cX12_isTwo 26 = .ok (.iconst 1, 1) := by decide +kernel
theorem dX12_isTwo_27 : decode cX12_isTwo 27 = .ok (.goto 4, 3) := by decide +kernel
theorem dX12_isTwo_30 : decode cX12_isTwo 30 = .ok (.iconst 0, 1) := by decide +kernel
theorem dX12_isTwo_31 : decode cX12_isTwo 31 = .ok (.ireturn, 1) := by decide +kernel
def f_X12_isTwo0 (p1 : Int32) : Option Int32 := if p1 < 0 then (some (0 : Int32)) else (bnd1 (f_X12_isLetter (((p1 / (100 : Int32)) : Int32).toInt64)) (fun r3 => if r3 = 0 then (some (0 : Int32)) else (bnd1 (f_X12_isLetter (((p1 - p1 / (100 : Int32) * (100 : Int32)) : Int32).toInt64)) (fun r6 => if r6 = 0 then (some (0 : Int32)) else (some (1 : Int32))))))
def f_X12_isTwo (p1 : Int32) : Option Int32 := chkB1 (f_X12_isTwo0 p1)
set_option maxHeartbeats 4000000 in
set_option maxRecDepth 100000 in
theorem c_X12_isTwo {l : Launch} {g : va_G} {ts : ClassId × ClassId × ClassId} {wf : St → va_W} {σ : St} {p1 : Int32} {r : Int32} (hf : f_X12_isTwo p1 = some r) : ConI l g ts (wf) yX12_isTwo cX12_isTwo 1 (some .boolean) (rk 2 46) σ [.int p1] r σ := by
  rw [f_X12_isTwo] at hf
  obtain ⟨hf, hn⟩ := chkB1_some hf
  refine ConI_mk .boolean rfl hn rfl rfl (by decide) (Nat.le_of_ble_eq_true rfl) ?_
  intro p e s m below meth c A Q ls C hQ hP hD hS hl
  have C : FX p s m _ meth c RX12 cX12_isTwo 1 g ts A := C
  have hx := C.1
  have hb := C.2.1
  have hown := C.2.2.2.1
  have hts := C.2.2.2.2.1
  have hl : lv_has ls 1 [(0, .int p1)] := hl
  rw [f_X12_isTwo0] at hf
  refine lv_iload_n hx hb dX12_isTwo_0 rfl (lv_at hl 0 rfl) ?_
  refine lv_if_lt (tgt := 30) hx hb dX12_isTwo_1 (by decide) (fun c1 => ?_) (fun c1 => ?_)
  · replace hf := ipos c1 hf
    refine lv_iconst (v := 0) hx hb dX12_isTwo_30 (by decide) ?_
    exact retIp hQ hf dX12_isTwo_31 hP hD hS
  · replace hf := ineg c1 hf
    refine lv_iload_n hx hb dX12_isTwo_4 rfl (lv_at hl 0 rfl) ?_
    refine lv_bipush (v := 100) hx hb dX12_isTwo_5 (by decide) ?_
    refine lv_idiv hx hb dX12_isTwo_7 (by decide) ?_
    refine lv_i2l (v := ((p1 / (100 : Int32)) : Int32).toInt64) hx hb dX12_isTwo_8 rfl ?_
    obtain ⟨r3, h2, hf⟩ := bnd1_some hf
    refine tI [] C hP hD hS (c_X12_isLetter h2) ms_X12_isLetter q_1230 dX12_isTwo_9 ⟨Nat.le_of_ble_eq_true rfl, Nat.le_of_ble_eq_true rfl⟩ ⟨Nat.zero_le _, Nat.zero_le _⟩ rfl rfl (Nat.le_of_ble_eq_true rfl) hl.1 (fun H locs hP hD hS => ?_)
    refine lv_if_eq (tgt := 30) hx hb dX12_isTwo_12 (by decide) (fun c4 => ?_) (fun c4 => ?_)
    · replace hf := ipos c4 hf
      refine lv_iconst (v := 0) hx hb dX12_isTwo_30 (by decide) ?_
      exact retIp hQ hf dX12_isTwo_31 hP hD hS
    · replace hf := ineg c4 hf
      refine lv_iload_n hx hb dX12_isTwo_15 rfl (lv_at hl 0 rfl) ?_
      refine lv_bipush (v := 100) hx hb dX12_isTwo_16 (by decide) ?_
      refine lv_irem hx hb dX12_isTwo_18 (by decide) ?_
      refine lv_i2l (v := ((p1 - p1 / (100 : Int32) * (100 : Int32)) : Int32).toInt64) hx hb dX12_isTwo_19 rfl ?_
      obtain ⟨r6, h5, hf⟩ := bnd1_some hf
      refine tI [] C hP hD hS (c_X12_isLetter h5) ms_X12_isLetter q_1230 dX12_isTwo_20 ⟨Nat.le_of_ble_eq_true rfl, Nat.le_of_ble_eq_true rfl⟩ ⟨Nat.zero_le _, Nat.zero_le _⟩ rfl rfl (Nat.le_of_ble_eq_true rfl) hl.1 (fun H locs hP hD hS => ?_)
      refine lv_if_eq (tgt := 30) hx hb dX12_isTwo_23 (by decide) (fun c7 => ?_) (fun c7 => ?_)
      · replace hf := ipos c7 hf
        refine lv_iconst (v := 0) hx hb dX12_isTwo_30 (by decide) ?_
        exact retIp hQ hf dX12_isTwo_31 hP hD hS
      · replace hf := ineg c7 hf
        refine lv_iconst (v := 1) hx hb dX12_isTwo_26 (by decide) ?_
        refine lv_goto (tgt := 31) hx hb dX12_isTwo_27 (by decide) ?_
        exact retIp hQ hf dX12_isTwo_31 hP hD hS
theorem dX12_alikeAt_0 : decode cX12_alikeAt 0 = .ok (.bipush 10, 2) := by decide +kernel
theorem dX12_alikeAt_2 : decode cX12_alikeAt 2 = .ok (.iload_n 0, 1) := by decide +kernel
theorem dX12_alikeAt_3 : decode cX12_alikeAt 3 = .ok (.iload_n 1, 1) := by decide +kernel
theorem dX12_alikeAt_4 : decode cX12_alikeAt 4 = .ok (.if_icmp .ge 12, 3) := by decide +kernel
theorem dX12_alikeAt_7 : decode cX12_alikeAt 7 = .ok (.bipush 12, 2) := by decide +kernel
theorem dX12_alikeAt_9 : decode cX12_alikeAt 9 = .ok (.iload_n 0, 1) := by decide +kernel
theorem dX12_alikeAt_10 : decode cX12_alikeAt 10 = .ok (.imul, 1) := by decide +kernel
theorem dX12_alikeAt_11 : decode cX12_alikeAt 11 = .ok (.iload_n 1, 1) := by decide +kernel
theorem dX12_alikeAt_12 : decode cX12_alikeAt 12 = .ok (.iadd, 1) := by decide +kernel
theorem dX12_alikeAt_13 : decode cX12_alikeAt 13 = .ok (.goto 9, 3) := by decide +kernel
theorem dX12_alikeAt_16 : decode cX12_alikeAt 16 = .ok (.bipush 12, 2) := by decide +kernel
theorem dX12_alikeAt_18 : decode cX12_alikeAt 18 = .ok (.iload_n 1, 1) := by decide +kernel
theorem dX12_alikeAt_19 : decode cX12_alikeAt 19 = .ok (.imul, 1) := by decide +kernel
theorem dX12_alikeAt_20 : decode cX12_alikeAt 20 = .ok (.iload_n 0, 1) := by decide +kernel
theorem dX12_alikeAt_21 : decode cX12_alikeAt 21 = .ok (.iadd, 1) := by decide +kernel
theorem dX12_alikeAt_22 : decode cX12_alikeAt 22 = .ok (.iadd, 1) := by decide +kernel
theorem dX12_alikeAt_23 : decode cX12_alikeAt 23 = .ok (.ireturn, 1) := by decide +kernel
def f_X12_alikeAt (p1 : Int32) (p2 : Int32) : Option Int32 := if p2 ≤ p1 then (some ((10 : Int32) + (((12 : Int32) * p2) + p1))) else (some ((10 : Int32) + (((12 : Int32) * p1) + p2)))
set_option maxHeartbeats 4000000 in
set_option maxRecDepth 100000 in
theorem c_X12_alikeAt {l : Launch} {g : va_G} {ts : ClassId × ClassId × ClassId} {wf : St → va_W} {σ : St} {p1 : Int32} {p2 : Int32} {r : Int32} (hf : f_X12_alikeAt p1 p2 = some r) : ConI l g ts (wf) yX12_alikeAt cX12_alikeAt 2 (some .int) (rk 0 0) σ [.int p1, .int p2] r σ := by
  refine ConI_mk .int rfl rfl rfl rfl (by decide) (Nat.le_of_ble_eq_true rfl) ?_
  intro p e s m below meth c A Q ls C hQ hP hD hS hl
  have C : FX p s m _ meth c RX12 cX12_alikeAt 2 g ts A := C
  have hx := C.1
  have hb := C.2.1
  have hown := C.2.2.2.1
  have hts := C.2.2.2.2.1
  have hl : lv_has ls 2 [(0, .int p1), (1, .int p2)] := hl
  rw [f_X12_alikeAt] at hf
  refine lv_bipush (v := 10) hx hb dX12_alikeAt_0 (by decide) ?_
  refine lv_iload_n hx hb dX12_alikeAt_2 rfl (lv_at hl 0 rfl) ?_
  refine lv_iload_n hx hb dX12_alikeAt_3 rfl (lv_at hl 1 rfl) ?_
  refine lv_icmp_ge (tgt := 16) hx hb dX12_alikeAt_4 (by decide) (fun c1 => ?_) (fun c1 => ?_)
  · replace hf := ipos c1 hf
    refine lv_bipush (v := 12) hx hb dX12_alikeAt_16 (by decide) ?_
    refine lv_iload_n hx hb dX12_alikeAt_18 rfl (lv_at hl 1 rfl) ?_
    refine lv_imul hx hb dX12_alikeAt_19 ?_
    refine lv_iload_n hx hb dX12_alikeAt_20 rfl (lv_at hl 0 rfl) ?_
    refine lv_iadd hx hb dX12_alikeAt_21 ?_
    refine lv_iadd hx hb dX12_alikeAt_22 ?_
    exact retIp hQ hf dX12_alikeAt_23 hP hD hS
  · replace hf := ineg c1 hf
    refine lv_bipush (v := 12) hx hb dX12_alikeAt_7 (by decide) ?_
    refine lv_iload_n hx hb dX12_alikeAt_9 rfl (lv_at hl 0 rfl) ?_
    refine lv_imul hx hb dX12_alikeAt_10 ?_
    refine lv_iload_n hx hb dX12_alikeAt_11 rfl (lv_at hl 1 rfl) ?_
    refine lv_iadd hx hb dX12_alikeAt_12 ?_
    refine lv_goto (tgt := 22) hx hb dX12_alikeAt_13 (by decide) ?_
    refine lv_iadd hx hb dX12_alikeAt_22 ?_
    exact retIp hQ hf dX12_alikeAt_23 hP hD hS
theorem dX12_nameOf_0 : decode cX12_nameOf 0 = .ok (.iload_n 0, 1) := by decide +kernel
theorem dX12_nameOf_1 : decode cX12_nameOf 1 = .ok (.tableswitch 103 97 115 #[91, 103, 103, 103, 95, 103, 103, 99, 103, 103, 101, 103, 103, 93, 103, 103, 103, 103, 97], 91) := by decide +kernel
theorem dX12_nameOf_92 : decode cX12_nameOf 92 = .ok (.iconst 0, 1) := by decide +kernel
theorem dX12_nameOf_93 : decode cX12_nameOf 93 = .ok (.ireturn, 1) := by decide +kernel
theorem dX12_nameOf_94 : decode cX12_nameOf 94 = .ok (.iconst 1, 1) := by decide +kernel
theorem dX12_nameOf_95 : decode cX12_nameOf 95 = .ok (.ireturn, 1) := by decide +kernel
theorem dX12_nameOf_96 : decode cX12_nameOf 96 = .ok (.iconst 2, 1) := by decide +kernel
theorem dX12_nameOf_97 : decode cX12_nameOf 97 = .ok (.ireturn, 1) := by decide +kernel
theorem dX12_nameOf_98 : decode cX12_nameOf 98 = .ok (.iconst 3, 1) := by decide +kernel
theorem dX12_nameOf_99 : decode cX12_nameOf 99 = .ok (.ireturn, 1) := by decide +kernel
theorem dX12_nameOf_100 : decode cX12_nameOf 100 = .ok (.iconst 4, 1) := by decide +kernel
theorem dX12_nameOf_101 : decode cX12_nameOf 101 = .ok (.ireturn, 1) := by decide +kernel
theorem dX12_nameOf_102 : decode cX12_nameOf 102 = .ok (.iconst 5, 1) := by decide +kernel
theorem dX12_nameOf_103 : decode cX12_nameOf 103 = .ok (.ireturn, 1) := by decide +kernel
theorem dX12_nameOf_104 : decode cX12_nameOf 104 = .ok (.iconst (-1), 1) := by decide +kernel
theorem dX12_nameOf_105 : decode cX12_nameOf 105 = .ok (.ireturn, 1) := by decide +kernel
def f_X12_nameOf (p1 : Int32) : Option Int32 := if p1 = 97 then (some (0 : Int32)) else (if p1 = 98 then (some (-1 : Int32)) else (if p1 = 99 then (some (-1 : Int32)) else (if p1 = 100 then (some (-1 : Int32)) else (if p1 = 101 then (some (2 : Int32)) else (if p1 = 102 then (some (-1 : Int32)) else (if p1 = 103 then (some (-1 : Int32)) else (if p1 = 104 then (some (4 : Int32)) else (if p1 = 105 then (some (-1 : Int32)) else (if p1 = 106 then (some (-1 : Int32)) else (if p1 = 107 then (some (5 : Int32)) else (if p1 = 108 then (some (-1 : Int32)) else (if p1 = 109 then (some (-1 : Int32)) else (if p1 = 110 then (some (1 : Int32)) else (if p1 = 111 then (some (-1 : Int32)) else (if p1 = 112 then (some (-1 : Int32)) else (if p1 = 113 then (some (-1 : Int32)) else (if p1 = 114 then (some (-1 : Int32)) else (if p1 = 115 then (some (3 : Int32)) else (some (-1 : Int32))))))))))))))))))))
set_option maxHeartbeats 4000000 in
set_option maxRecDepth 100000 in
theorem c_X12_nameOf {l : Launch} {g : va_G} {ts : ClassId × ClassId × ClassId} {wf : St → va_W} {σ : St} {p1 : Int32} {r : Int32} (hf : f_X12_nameOf p1 = some r) : ConI l g ts (wf) yX12_nameOf cX12_nameOf 1 (some .int) (rk 0 0) σ [.int p1] r σ := by
  refine ConI_mk .int rfl rfl rfl rfl (by decide) (Nat.le_of_ble_eq_true rfl) ?_
  intro p e s m below meth c A Q ls C hQ hP hD hS hl
  have C : FX p s m _ meth c RX12 cX12_nameOf 1 g ts A := C
  have hx := C.1
  have hb := C.2.1
  have hown := C.2.2.2.1
  have hts := C.2.2.2.2.1
  have hl : lv_has ls 1 [(0, .int p1)] := hl
  rw [f_X12_nameOf] at hf
  refine lv_iload_n hx hb dX12_nameOf_0 rfl (lv_at hl 0 rfl) ?_
  by_cases c1 : p1 = 97
  · replace hf := ipos c1 hf
    refine lv_tableIn (off := 91) (tgt := 92) hx hb dX12_nameOf_1 (by rw [c1]; decide) (by rw [c1]; decide) (by rw [c1]; rfl) (by decide) ?_
    refine lv_iconst (v := 0) hx hb dX12_nameOf_92 (by decide) ?_
    exact retIp hQ hf dX12_nameOf_93 hP hD hS
  · replace hf := ineg c1 hf
    by_cases c2 : p1 = 98
    · replace hf := ipos c2 hf
      refine lv_tableIn (off := 103) (tgt := 104) hx hb dX12_nameOf_1 (by rw [c2]; decide) (by rw [c2]; decide) (by rw [c2]; rfl) (by decide) ?_
      refine lv_iconst (v := -1) hx hb dX12_nameOf_104 (by decide) ?_
      exact retIp hQ hf dX12_nameOf_105 hP hD hS
    · replace hf := ineg c2 hf
      by_cases c3 : p1 = 99
      · replace hf := ipos c3 hf
        refine lv_tableIn (off := 103) (tgt := 104) hx hb dX12_nameOf_1 (by rw [c3]; decide) (by rw [c3]; decide) (by rw [c3]; rfl) (by decide) ?_
        refine lv_iconst (v := -1) hx hb dX12_nameOf_104 (by decide) ?_
        exact retIp hQ hf dX12_nameOf_105 hP hD hS
      · replace hf := ineg c3 hf
        by_cases c4 : p1 = 100
        · replace hf := ipos c4 hf
          refine lv_tableIn (off := 103) (tgt := 104) hx hb dX12_nameOf_1 (by rw [c4]; decide) (by rw [c4]; decide) (by rw [c4]; rfl) (by decide) ?_
          refine lv_iconst (v := -1) hx hb dX12_nameOf_104 (by decide) ?_
          exact retIp hQ hf dX12_nameOf_105 hP hD hS
        · replace hf := ineg c4 hf
          by_cases c5 : p1 = 101
          · replace hf := ipos c5 hf
            refine lv_tableIn (off := 95) (tgt := 96) hx hb dX12_nameOf_1 (by rw [c5]; decide) (by rw [c5]; decide) (by rw [c5]; rfl) (by decide) ?_
            refine lv_iconst (v := 2) hx hb dX12_nameOf_96 (by decide) ?_
            exact retIp hQ hf dX12_nameOf_97 hP hD hS
          · replace hf := ineg c5 hf
            by_cases c6 : p1 = 102
            · replace hf := ipos c6 hf
              refine lv_tableIn (off := 103) (tgt := 104) hx hb dX12_nameOf_1 (by rw [c6]; decide) (by rw [c6]; decide) (by rw [c6]; rfl) (by decide) ?_
              refine lv_iconst (v := -1) hx hb dX12_nameOf_104 (by decide) ?_
              exact retIp hQ hf dX12_nameOf_105 hP hD hS
            · replace hf := ineg c6 hf
              by_cases c7 : p1 = 103
              · replace hf := ipos c7 hf
                refine lv_tableIn (off := 103) (tgt := 104) hx hb dX12_nameOf_1 (by rw [c7]; decide) (by rw [c7]; decide) (by rw [c7]; rfl) (by decide) ?_
                refine lv_iconst (v := -1) hx hb dX12_nameOf_104 (by decide) ?_
                exact retIp hQ hf dX12_nameOf_105 hP hD hS
              · replace hf := ineg c7 hf
                by_cases c8 : p1 = 104
                · replace hf := ipos c8 hf
                  refine lv_tableIn (off := 99) (tgt := 100) hx hb dX12_nameOf_1 (by rw [c8]; decide) (by rw [c8]; decide) (by rw [c8]; rfl) (by decide) ?_
                  refine lv_iconst (v := 4) hx hb dX12_nameOf_100 (by decide) ?_
                  exact retIp hQ hf dX12_nameOf_101 hP hD hS
                · replace hf := ineg c8 hf
                  by_cases c9 : p1 = 105
                  · replace hf := ipos c9 hf
                    refine lv_tableIn (off := 103) (tgt := 104) hx hb dX12_nameOf_1 (by rw [c9]; decide) (by rw [c9]; decide) (by rw [c9]; rfl) (by decide) ?_
                    refine lv_iconst (v := -1) hx hb dX12_nameOf_104 (by decide) ?_
                    exact retIp hQ hf dX12_nameOf_105 hP hD hS
                  · replace hf := ineg c9 hf
                    by_cases c10 : p1 = 106
                    · replace hf := ipos c10 hf
                      refine lv_tableIn (off := 103) (tgt := 104) hx hb dX12_nameOf_1 (by rw [c10]; decide) (by rw [c10]; decide) (by rw [c10]; rfl) (by decide) ?_
                      refine lv_iconst (v := -1) hx hb dX12_nameOf_104 (by decide) ?_
                      exact retIp hQ hf dX12_nameOf_105 hP hD hS
                    · replace hf := ineg c10 hf
                      by_cases c11 : p1 = 107
                      · replace hf := ipos c11 hf
                        refine lv_tableIn (off := 101) (tgt := 102) hx hb dX12_nameOf_1 (by rw [c11]; decide) (by rw [c11]; decide) (by rw [c11]; rfl) (by decide) ?_
                        refine lv_iconst (v := 5) hx hb dX12_nameOf_102 (by decide) ?_
                        exact retIp hQ hf dX12_nameOf_103 hP hD hS
                      · replace hf := ineg c11 hf
                        by_cases c12 : p1 = 108
                        · replace hf := ipos c12 hf
                          refine lv_tableIn (off := 103) (tgt := 104) hx hb dX12_nameOf_1 (by rw [c12]; decide) (by rw [c12]; decide) (by rw [c12]; rfl) (by decide) ?_
                          refine lv_iconst (v := -1) hx hb dX12_nameOf_104 (by decide) ?_
                          exact retIp hQ hf dX12_nameOf_105 hP hD hS
                        · replace hf := ineg c12 hf
                          by_cases c13 : p1 = 109
                          · replace hf := ipos c13 hf
                            refine lv_tableIn (off := 103) (tgt := 104) hx hb dX12_nameOf_1 (by rw [c13]; decide) (by rw [c13]; decide) (by rw [c13]; rfl) (by decide) ?_
                            refine lv_iconst (v := -1) hx hb dX12_nameOf_104 (by decide) ?_
                            exact retIp hQ hf dX12_nameOf_105 hP hD hS
                          · replace hf := ineg c13 hf
                            by_cases c14 : p1 = 110
                            · replace hf := ipos c14 hf
                              refine lv_tableIn (off := 93) (tgt := 94) hx hb dX12_nameOf_1 (by rw [c14]; decide) (by rw [c14]; decide) (by rw [c14]; rfl) (by decide) ?_
                              refine lv_iconst (v := 1) hx hb dX12_nameOf_94 (by decide) ?_
                              exact retIp hQ hf dX12_nameOf_95 hP hD hS
                            · replace hf := ineg c14 hf
                              by_cases c15 : p1 = 111
                              · replace hf := ipos c15 hf
                                refine lv_tableIn (off := 103) (tgt := 104) hx hb dX12_nameOf_1 (by rw [c15]; decide) (by rw [c15]; decide) (by rw [c15]; rfl) (by decide) ?_
                                refine lv_iconst (v := -1) hx hb dX12_nameOf_104 (by decide) ?_
                                exact retIp hQ hf dX12_nameOf_105 hP hD hS
                              · replace hf := ineg c15 hf
                                by_cases c16 : p1 = 112
                                · replace hf := ipos c16 hf
                                  refine lv_tableIn (off := 103) (tgt := 104) hx hb dX12_nameOf_1 (by rw [c16]; decide) (by rw [c16]; decide) (by rw [c16]; rfl) (by decide) ?_
                                  refine lv_iconst (v := -1) hx hb dX12_nameOf_104 (by decide) ?_
                                  exact retIp hQ hf dX12_nameOf_105 hP hD hS
                                · replace hf := ineg c16 hf
                                  by_cases c17 : p1 = 113
                                  · replace hf := ipos c17 hf
                                    refine lv_tableIn (off := 103) (tgt := 104) hx hb dX12_nameOf_1 (by rw [c17]; decide) (by rw [c17]; decide) (by rw [c17]; rfl) (by decide) ?_
                                    refine lv_iconst (v := -1) hx hb dX12_nameOf_104 (by decide) ?_
                                    exact retIp hQ hf dX12_nameOf_105 hP hD hS
                                  · replace hf := ineg c17 hf
                                    by_cases c18 : p1 = 114
                                    · replace hf := ipos c18 hf
                                      refine lv_tableIn (off := 103) (tgt := 104) hx hb dX12_nameOf_1 (by rw [c18]; decide) (by rw [c18]; decide) (by rw [c18]; rfl) (by decide) ?_
                                      refine lv_iconst (v := -1) hx hb dX12_nameOf_104 (by decide) ?_
                                      exact retIp hQ hf dX12_nameOf_105 hP hD hS
                                    · replace hf := ineg c18 hf
                                      by_cases c19 : p1 = 115
                                      · replace hf := ipos c19 hf
                                        refine lv_tableIn (off := 97) (tgt := 98) hx hb dX12_nameOf_1 (by rw [c19]; decide) (by rw [c19]; decide) (by rw [c19]; rfl) (by decide) ?_
                                        refine lv_iconst (v := 3) hx hb dX12_nameOf_98 (by decide) ?_
                                        exact retIp hQ hf dX12_nameOf_99 hP hD hS
                                      · replace hf := ineg c19 hf
                                        refine lv_tableOut (tgt := 104) hx hb dX12_nameOf_1 (by have uc1 := lv_neT c1 (a := 97) (by decide); have uc2 := lv_neT c2 (a := 98) (by decide); have uc3 := lv_neT c3 (a := 99) (by decide); have uc4 := lv_neT c4 (a := 100) (by decide); have uc5 := lv_neT c5 (a := 101) (by decide); have uc6 := lv_neT c6 (a := 102) (by decide); have uc7 := lv_neT c7 (a := 103) (by decide); have uc8 := lv_neT c8 (a := 104) (by decide); have uc9 := lv_neT c9 (a := 105) (by decide); have uc10 := lv_neT c10 (a := 106) (by decide); have uc11 := lv_neT c11 (a := 107) (by decide); have uc12 := lv_neT c12 (a := 108) (by decide); have uc13 := lv_neT c13 (a := 109) (by decide); have uc14 := lv_neT c14 (a := 110) (by decide); have uc15 := lv_neT c15 (a := 111) (by decide); have uc16 := lv_neT c16 (a := 112) (by decide); have uc17 := lv_neT c17 (a := 113) (by decide); have uc18 := lv_neT c18 (a := 114) (by decide); have uc19 := lv_neT c19 (a := 115) (by decide); omega) (by decide) ?_
                                        refine lv_iconst (v := -1) hx hb dX12_nameOf_104 (by decide) ?_
                                        exact retIp hQ hf dX12_nameOf_105 hP hD hS
theorem dX12_commonOf_0 : decode cX12_commonOf 0 = .ok (.lload_n 0, 1) := by decide +kernel
theorem dX12_commonOf_1 : decode cX12_commonOf 1 = .ok (.lstore 4, 2) := by decide +kernel
theorem dX12_commonOf_3 : decode cX12_commonOf 3 = .ok (.lload_n 2, 1) := by decide +kernel
theorem dX12_commonOf_4 : decode cX12_commonOf 4 = .ok (.lstore 6, 2) := by decide +kernel
theorem dX12_commonOf_6 : decode cX12_commonOf 6 = .ok (.lload 6, 2) := by decide +kernel
theorem dX12_commonOf_8 : decode cX12_commonOf 8 = .ok (.lconst 0, 1) := by decide +kernel
theorem dX12_commonOf_9 : decode cX12_commonOf 9 = .ok (.lcmp, 1) := by decide +kernel
theorem dX12_commonOf_10 : decode cX12_commonOf 10 = .ok (.ifCond .eq 21, 3) := by decide +kernel
theorem dX12_commonOf_13 : decode cX12_commonOf 13 = .ok (.lload 4, 2) := by decide +kernel
theorem dX12_commonOf_15 : decode cX12_commonOf 15 = .ok (.lload 6, 2) := by decide +kernel
theorem dX12_commonOf_17 : decode cX12_commonOf 17 = .ok (.lrem, 1) := by decide +kernel
theorem dX12_commonOf_18 : decode cX12_commonOf 18 = .ok (.lstore 8, 2) := by decide +kernel
theorem dX12_commonOf_20 : decode cX12_commonOf 20 = .ok (.lload 6, 2) := by decide +kernel
theorem dX12_commonOf_22 : decode cX12_commonOf 22 = .ok (.lstore 4, 2) := by decide +kernel
theorem dX12_commonOf_24 : decode cX12_commonOf 24 = .ok (.lload 8, 2) := by decide +kernel
theorem dX12_commonOf_26 : decode cX12_commonOf 26 = .ok (.lstore 6, 2) := by decide +kernel
theorem dX12_commonOf_28 : decode cX12_commonOf 28 = .ok (.goto (-22), 3) := by decide +kernel
theorem dX12_commonOf_31 : decode cX12_commonOf 31 = .ok (.lload 4, 2) := by decide +kernel
theorem dX12_commonOf_33 : decode cX12_commonOf 33 = .ok (.lreturn, 1) := by decide +kernel
def f_X12_commonOf_b6 : Nat → Int64 → Int64 → Option Int64
  | 0, _, _ => none
  | n + 1, x4, x6 => if x6 = (0 : Int64) then (some x4) else (chk (x6 = 0) (bnd (x4 - x4 / x6 * x6) (fun v3 => f_X12_commonOf_b6 n x6 v3)))
def f_X12_commonOf (p1 : Int64) (p2 : Int64) : Option Int64 := f_X12_commonOf_b6 256 p1 p2
set_option maxHeartbeats 4000000 in
set_option maxRecDepth 100000 in
theorem w_X12_commonOf_b6 {p : Program} {l : Launch} {e : Env} {s : State} {m : MethodId} {args : Array Value} {below : List Frame} {meth : Method} {c : Code} {g : va_G} {ts : ClassId × ClassId × ClassId} {A : Nat → Prop} {Q : State → Prop} {wf : St → va_W} {σ : St} {r : Int64} (C : FX p s m args meth c RX12 cX12_commonOf 10 g ts A) (hQ : RetL p l e (rk 0 0) s m args below meth c cX12_commonOf g (wf) A r σ Q) : ∀ (n : Nat) (x4 : Int64) (x6 : Int64) (H : Heap) (locs : List Loc) (ls : Array Slot), f_X12_commonOf_b6 n x4 x6 = some r → va_P g classes (wf σ) H → va_D A (wf σ) → va_S A s.heap H locs → lv_has ls 10 [(4, .long x4), (6, .long x6)] → W p l e (rk 0 0) s m args below meth c H locs 0 0 Q (F0 m 6 ls []) := by
  have hx := C.1
  have hb := C.2.1
  have hown := C.2.2.2.1
  have hts := C.2.2.2.2.1
  intro n
  induction n with
  | zero =>
    intro x4 x6 H locs ls hf
    cases hf
  | succ n ih =>
    intro x4 x6 H locs ls hf hP hD hS hl
    rw [f_X12_commonOf_b6] at hf
    refine lv_lload hx hb dX12_commonOf_6 (lv_at hl 1 rfl) ?_
    refine lv_lconst (v := 0) hx hb dX12_commonOf_8 (by decide) ?_
    refine lb_eq (tgt := 31) hx hb dX12_commonOf_9 dX12_commonOf_10 (by decide) (fun c1 => ?_) (fun c1 => ?_)
    · replace hf := ipos c1 hf
      refine lv_lload hx hb dX12_commonOf_31 (lv_at hl 0 rfl) ?_
      exact retLp hQ hf dX12_commonOf_33 hP hD hS
    · replace hf := ineg c1 hf
      refine lv_lload hx hb dX12_commonOf_13 (lv_at hl 0 rfl) ?_
      refine lv_lload hx hb dX12_commonOf_15 (lv_at hl 1 rfl) ?_
      obtain ⟨h2, hf⟩ := chk_some hf
      refine lv_lrem hx hb dX12_commonOf_17 h2 ?_
      refine lv_topl (fun v3 ev3 => ?_)
      replace hf := bnd_at ev3 hf
      refine lv_lstore (lv' := [(8, .long v3), (4, .long x4), (6, .long x6)]) hx hb dX12_commonOf_18 hl (by decide) rfl (fun ls hl => ?_)
      refine lv_lload hx hb dX12_commonOf_20 (lv_at hl 2 rfl) ?_
      refine lv_lstore (lv' := [(4, .long x6), (8, .long v3), (6, .long x6)]) hx hb dX12_commonOf_22 hl (by decide) rfl (fun ls hl => ?_)
      refine lv_lload hx hb dX12_commonOf_24 (lv_at hl 1 rfl) ?_
      refine lv_lstore (lv' := [(6, .long v3), (4, .long x6), (8, .long v3)]) hx hb dX12_commonOf_26 hl (by decide) rfl (fun ls hl => ?_)
      refine lv_goto (tgt := 6) hx hb dX12_commonOf_28 (by decide) ?_
      exact ih _ _ _ _ _ hf hP hD hS (lv_sub hl [1, 0] rfl)
set_option maxHeartbeats 4000000 in
set_option maxRecDepth 100000 in
theorem c_X12_commonOf {l : Launch} {g : va_G} {ts : ClassId × ClassId × ClassId} {wf : St → va_W} {σ : St} {p1 : Int64} {p2 : Int64} {r : Int64} (hf : f_X12_commonOf p1 p2 = some r) : ConL l g ts (wf) yX12_commonOf cX12_commonOf 10 (some .long) (rk 0 0) σ [.long p1, .long p2] r σ := by
  refine ConL_mk rfl rfl (by decide) (Nat.le_of_ble_eq_true rfl) ?_
  intro p e s m below meth c A Q ls C hQ hP hD hS hl
  have C : FX p s m _ meth c RX12 cX12_commonOf 10 g ts A := C
  have hx := C.1
  have hb := C.2.1
  have hown := C.2.2.2.1
  have hts := C.2.2.2.2.1
  have hl : lv_has ls 10 [(0, .long p1), (2, .long p2)] := hl
  rw [f_X12_commonOf] at hf
  refine lv_lload_n hx hb dX12_commonOf_0 rfl (lv_at hl 0 rfl) ?_
  refine lv_lstore (lv' := [(4, .long p1), (0, .long p1), (2, .long p2)]) hx hb dX12_commonOf_1 hl (by decide) rfl (fun ls hl => ?_)
  refine lv_lload_n hx hb dX12_commonOf_3 rfl (lv_at hl 2 rfl) ?_
  refine lv_lstore (lv' := [(6, .long p2), (4, .long p1), (0, .long p1), (2, .long p2)]) hx hb dX12_commonOf_4 hl (by decide) rfl (fun ls hl => ?_)
  exact w_X12_commonOf_b6 C hQ 256 _ _ _ _ _ hf hP hD hS (lv_sub hl [1, 0] rfl)
theorem dX12_partOf_0 : decode cX12_partOf 0 = .ok (.lload_n 0, 1) := by decide +kernel
theorem dX12_partOf_1 : decode cX12_partOf 1 = .ok (.lconst 0, 1) := by decide +kernel
theorem dX12_partOf_2 : decode cX12_partOf 2 = .ok (.lcmp, 1) := by decide +kernel
theorem dX12_partOf_3 : decode cX12_partOf 3 = .ok (.ifCond .ne 7, 3) := by decide +kernel
theorem dX12_partOf_6 : decode cX12_partOf 6 = .ok (.iload 4, 2) := by decide +kernel
theorem dX12_partOf_8 : decode cX12_partOf 8 = .ok (.i2l, 1) := by decide +kernel
theorem dX12_partOf_9 : decode cX12_partOf 9 = .ok (.lreturn, 1) := by decide +kernel
theorem dX12_partOf_10 : decode cX12_partOf 10 = .ok (.lload_n 2, 1) := by decide +kernel
theorem dX12_partOf_11 : decode cX12_partOf 11 = .ok (.lload_n 0, 1) := by decide +kernel
theorem dX12_partOf_12 : decode cX12_partOf 12 = .ok (.invokestatic 196, 3) := by decide +kernel
theorem dX12_partOf_15 : decode cX12_partOf 15 = .ok (.lstore 5, 2) := by decide +kernel
theorem dX12_partOf_17 : decode cX12_partOf 17 = .ok (.iload 4, 2) := by decide +kernel
theorem dX12_partOf_19 : decode cX12_partOf 19 = .ok (.ifCond .ne 10, 3) := by decide +kernel
theorem dX12_partOf_22 : decode cX12_partOf 22 = .ok (.lload_n 0, 1) := by decide +kernel
theorem dX12_partOf_23 : decode cX12_partOf 23 = .ok (.lload 5, 2) := by decide +kernel
theorem dX12_partOf_25 : decode cX12_partOf 25 = .ok (.ldiv, 1) := by decide +kernel
theorem dX12_partOf_26 : decode cX12_partOf 26 = .ok (.goto 7, 3) := by decide +kernel
theorem dX12_partOf_29 : decode cX12_partOf 29 = .ok (.lload_n 2, 1) := by decide +kernel
theorem dX12_partOf_30 : decode cX12_partOf 30 = .ok (.lload 5, 2) := by decide +kernel
theorem dX12_partOf_32 : decode cX12_partOf 32 = .ok (.ldiv, 1) := by decide +kernel
theorem dX12_partOf_33 : decode cX12_partOf 33 = .ok (.lreturn, 1) := by decide +kernel
def f_X12_partOf (p1 : Int64) (p2 : Int64) (p3 : Int32) : Option Int64 := if p1 = (0 : Int64) then (some ((p3 : Int32).toInt64)) else (bnd1 (f_X12_commonOf p2 p1) (fun r3 => if p3 = 0 then (chk (r3 = 0) (some (p1 / r3))) else (chk (r3 = 0) (some (p2 / r3)))))
set_option maxHeartbeats 4000000 in
set_option maxRecDepth 100000 in
theorem c_X12_partOf {l : Launch} {g : va_G} {ts : ClassId × ClassId × ClassId} {wf : St → va_W} {σ : St} {p1 : Int64} {p2 : Int64} {p3 : Int32} {r : Int64} (hf : f_X12_partOf p1 p2 p3 = some r) : ConL l g ts (wf) yX12_partOf cX12_partOf 7 (some .long) (rk 1 29) σ [.long p1, .long p2, .int p3] r σ := by
  refine ConL_mk rfl rfl (by decide) (Nat.le_of_ble_eq_true rfl) ?_
  intro p e s m below meth c A Q ls C hQ hP hD hS hl
  have C : FX p s m _ meth c RX12 cX12_partOf 7 g ts A := C
  have hx := C.1
  have hb := C.2.1
  have hown := C.2.2.2.1
  have hts := C.2.2.2.2.1
  have hl : lv_has ls 7 [(0, .long p1), (2, .long p2), (4, .int p3)] := hl
  rw [f_X12_partOf] at hf
  refine lv_lload_n hx hb dX12_partOf_0 rfl (lv_at hl 0 rfl) ?_
  refine lv_lconst (v := 0) hx hb dX12_partOf_1 (by decide) ?_
  refine lb_ne (tgt := 10) hx hb dX12_partOf_2 dX12_partOf_3 (by decide) (fun c1 => ?_) (fun c1 => ?_)
  · replace hf := ineg c1 hf
    refine lv_lload_n hx hb dX12_partOf_10 rfl (lv_at hl 1 rfl) ?_
    refine lv_lload_n hx hb dX12_partOf_11 rfl (lv_at hl 0 rfl) ?_
    obtain ⟨r3, h2, hf⟩ := bnd1_some hf
    refine tL [] C hP hD hS (c_X12_commonOf h2) ms_X12_commonOf q_1334 dX12_partOf_12 ⟨Nat.le_of_ble_eq_true rfl, Nat.le_of_ble_eq_true rfl⟩ ⟨Nat.zero_le _, Nat.zero_le _⟩ rfl rfl (Nat.le_of_ble_eq_true rfl) hl.1 (fun H locs hP hD hS => ?_)
    refine lv_lstore (lv' := [(5, .long r3), (0, .long p1), (2, .long p2), (4, .int p3)]) hx hb dX12_partOf_15 hl (by decide) rfl (fun ls hl => ?_)
    refine lv_iload hx hb dX12_partOf_17 (lv_at hl 3 rfl) ?_
    refine lv_if_ne (tgt := 29) hx hb dX12_partOf_19 (by decide) (fun c4 => ?_) (fun c4 => ?_)
    · replace hf := ineg c4 hf
      refine lv_lload_n hx hb dX12_partOf_29 rfl (lv_at hl 2 rfl) ?_
      refine lv_lload hx hb dX12_partOf_30 (lv_at hl 0 rfl) ?_
      obtain ⟨h5, hf⟩ := chk_some hf
      refine lv_ldiv hx hb dX12_partOf_32 h5 ?_
      exact retLp hQ hf dX12_partOf_33 hP hD hS
    · replace hf := ipos c4 hf
      refine lv_lload_n hx hb dX12_partOf_22 rfl (lv_at hl 1 rfl) ?_
      refine lv_lload hx hb dX12_partOf_23 (lv_at hl 0 rfl) ?_
      obtain ⟨h6, hf⟩ := chk_some hf
      refine lv_ldiv hx hb dX12_partOf_25 h6 ?_
      refine lv_goto (tgt := 33) hx hb dX12_partOf_26 (by decide) ?_
      exact retLp hQ hf dX12_partOf_33 hP hD hS
  · replace hf := ipos c1 hf
    refine lv_iload hx hb dX12_partOf_6 (lv_at hl 2 rfl) ?_
    refine lv_i2l (v := (p3 : Int32).toInt64) hx hb dX12_partOf_8 rfl ?_
    exact retLp hQ hf dX12_partOf_9 hP hD hS
theorem dX12_powerOf_0 : decode cX12_powerOf 0 = .ok (.lconst 1, 1) := by decide +kernel
theorem dX12_powerOf_1 : decode cX12_powerOf 1 = .ok (.lstore_n 1, 1) := by decide +kernel
theorem dX12_powerOf_2 : decode cX12_powerOf 2 = .ok (.iconst 0, 1) := by decide +kernel
theorem dX12_powerOf_3 : decode cX12_powerOf 3 = .ok (.istore_n 3, 1) := by decide +kernel
theorem dX12_powerOf_4 : decode cX12_powerOf 4 = .ok (.iload_n 3, 1) := by decide +kernel
theorem dX12_powerOf_5 : decode cX12_powerOf 5 = .ok (.iload_n 0, 1) := by decide +kernel
theorem dX12_powerOf_6 : decode cX12_powerOf 6 = .ok (.if_icmp .ge 15, 3) := by decide +kernel
theorem dX12_powerOf_9 : decode cX12_powerOf 9 = .ok (.lload_n 1, 1) := by decide +kernel
theorem dX12_powerOf_10 : decode cX12_powerOf 10 = .ok (.ldc2_w 232, 3) := by decide +kernel
theorem dX12_powerOf_13 : decode cX12_powerOf 13 = .ok (.lmul, 1) := by decide +kernel
theorem dX12_powerOf_14 : decode cX12_powerOf 14 = .ok (.lstore_n 1, 1) := by decide +kernel
theorem dX12_powerOf_15 : decode cX12_powerOf 15 = .ok (.iinc 3 1, 3) := by decide +kernel
theorem dX12_powerOf_18 : decode cX12_powerOf 18 = .ok (.goto (-14), 3) := by decide +kernel
theorem dX12_powerOf_21 : decode cX12_powerOf 21 = .ok (.lload_n 1, 1) := by decide +kernel
theorem dX12_powerOf_22 : decode cX12_powerOf 22 = .ok (.lreturn, 1) := by decide +kernel
def f_X12_powerOf_b4 : Nat → Int32 → Int64 → Int32 → Option Int64
  | 0, _, _, _ => none
  | n + 1, x0, x1, x3 => if x0 ≤ x3 then (some x1) else (bnd (x1 * (100 : Int64)) (fun v2 => bnd (x3 + 1) (fun v3 => f_X12_powerOf_b4 n x0 v2 v3)))
def f_X12_powerOf (p1 : Int32) : Option Int64 := f_X12_powerOf_b4 256 p1 (1 : Int64) (0 : Int32)
set_option maxHeartbeats 4000000 in
set_option maxRecDepth 100000 in
theorem w_X12_powerOf_b4 {p : Program} {l : Launch} {e : Env} {s : State} {m : MethodId} {args : Array Value} {below : List Frame} {meth : Method} {c : Code} {g : va_G} {ts : ClassId × ClassId × ClassId} {A : Nat → Prop} {Q : State → Prop} {wf : St → va_W} {σ : St} {r : Int64} (C : FX p s m args meth c RX12 cX12_powerOf 4 g ts A) (hQ : RetL p l e (rk 0 0) s m args below meth c cX12_powerOf g (wf) A r σ Q) : ∀ (n : Nat) (x0 : Int32) (x1 : Int64) (x3 : Int32) (H : Heap) (locs : List Loc) (ls : Array Slot), f_X12_powerOf_b4 n x0 x1 x3 = some r → va_P g classes (wf σ) H → va_D A (wf σ) → va_S A s.heap H locs → lv_has ls 4 [(0, .int x0), (1, .long x1), (3, .int x3)] → W p l e (rk 0 0) s m args below meth c H locs 0 0 Q (F0 m 4 ls []) := by
  have hx := C.1
  have hb := C.2.1
  have hown := C.2.2.2.1
  have hts := C.2.2.2.2.1
  intro n
  induction n with
  | zero =>
    intro x0 x1 x3 H locs ls hf
    cases hf
  | succ n ih =>
    intro x0 x1 x3 H locs ls hf hP hD hS hl
    rw [f_X12_powerOf_b4] at hf
    refine lv_iload_n hx hb dX12_powerOf_4 rfl (lv_at hl 2 rfl) ?_
    refine lv_iload_n hx hb dX12_powerOf_5 rfl (lv_at hl 0 rfl) ?_
    refine lv_icmp_ge (tgt := 21) hx hb dX12_powerOf_6 (by decide) (fun c1 => ?_) (fun c1 => ?_)
    · replace hf := ipos c1 hf
      refine lv_lload_n hx hb dX12_powerOf_21 rfl (lv_at hl 1 rfl) ?_
      exact retLp hQ hf dX12_powerOf_22 hP hD hS
    · replace hf := ineg c1 hf
      refine lv_lload_n hx hb dX12_powerOf_9 rfl (lv_at hl 1 rfl) ?_
      refine lv_ldc2 hx hb hown (hts _ q_1384) dX12_powerOf_10 ?_
      refine lv_lmul hx hb dX12_powerOf_13 ?_
      refine lv_topl (fun v2 ev2 => ?_)
      replace hf := bnd_at ev2 hf
      refine lv_lstore_n (lv' := [(1, .long v2), (0, .int x0), (3, .int x3)]) hx hb dX12_powerOf_14 rfl hl (by decide) rfl (fun ls hl => ?_)
      obtain ⟨v3, ev3⟩ : ∃ z : Int32, z = x3 + 1 := ⟨_, rfl⟩
      replace hf := bnd_at ev3 hf
      refine lv_iinc (v := v3) (lv' := [(3, .int v3), (1, .long v2), (0, .int x0)]) hx hb dX12_powerOf_15 hl (k := 2) rfl (by rw [ev3]; rfl) (by decide) rfl (fun ls hl => ?_)
      refine lv_goto (tgt := 4) hx hb dX12_powerOf_18 (by decide) ?_
      exact ih _ _ _ _ _ _ hf hP hD hS (lv_sub hl [2, 1, 0] rfl)
set_option maxHeartbeats 4000000 in
set_option maxRecDepth 100000 in
theorem c_X12_powerOf {l : Launch} {g : va_G} {ts : ClassId × ClassId × ClassId} {wf : St → va_W} {σ : St} {p1 : Int32} {r : Int64} (hf : f_X12_powerOf p1 = some r) : ConL l g ts (wf) yX12_powerOf cX12_powerOf 4 (some .long) (rk 0 0) σ [.int p1] r σ := by
  refine ConL_mk rfl rfl (by decide) (Nat.le_of_ble_eq_true rfl) ?_
  intro p e s m below meth c A Q ls C hQ hP hD hS hl
  have C : FX p s m _ meth c RX12 cX12_powerOf 4 g ts A := C
  have hx := C.1
  have hb := C.2.1
  have hown := C.2.2.2.1
  have hts := C.2.2.2.2.1
  have hl : lv_has ls 4 [(0, .int p1)] := hl
  rw [f_X12_powerOf] at hf
  refine lv_lconst (v := 1) hx hb dX12_powerOf_0 (by decide) ?_
  refine lv_lstore_n (lv' := [(1, .long (1 : Int64)), (0, .int p1)]) hx hb dX12_powerOf_1 rfl hl (by decide) rfl (fun ls hl => ?_)
  refine lv_iconst (v := 0) hx hb dX12_powerOf_2 (by decide) ?_
  refine lv_istore_n (lv' := [(3, .int (0 : Int32)), (1, .long (1 : Int64)), (0, .int p1)]) hx hb dX12_powerOf_3 rfl hl (by decide) rfl (fun ls hl => ?_)
  exact w_X12_powerOf_b4 C hQ 256 _ _ _ _ _ _ hf hP hD hS (lv_sub hl [2, 1, 0] rfl)
theorem dX12_above_0 : decode cX12_above 0 = .ok (.iload_n 0, 1) := by decide +kernel
theorem dX12_above_1 : decode cX12_above 1 = .ok (.iconst 3, 1) := by decide +kernel
theorem dX12_above_2 : decode cX12_above 2 = .ok (.if_icmp .ne 7, 3) := by decide +kernel
theorem dX12_above_5 : decode cX12_above 5 = .ok (.iconst 2, 1) := by decide +kernel
theorem dX12_above_6 : decode cX12_above 6 = .ok (.goto 32, 3) := by decide +kernel
theorem dX12_above_9 : decode cX12_above 9 = .ok (.iload_n 0, 1) := by decide +kernel
theorem dX12_above_10 : decode cX12_above 10 = .ok (.iconst 4, 1) := by decide +kernel
theorem dX12_above_11 : decode cX12_above 11 = .ok (.if_icmp .ne 7, 3) := by decide +kernel
theorem dX12_above_14 : decode cX12_above 14 = .ok (.iconst 1, 1) := by decide +kernel
theorem dX12_above_15 : decode cX12_above 15 = .ok (.goto 23, 3) := by decide +kernel
theorem dX12_above_18 : decode cX12_above 18 = .ok (.iload_n 0, 1) := by decide +kernel
theorem dX12_above_19 : decode cX12_above 19 = .ok (.iconst 5, 1) := by decide +kernel
theorem dX12_above_20 : decode cX12_above 20 = .ok (.if_icmp .ne 7, 3) := by decide +kernel
theorem dX12_above_23 : decode cX12_above 23 = .ok (.iconst 3, 1) := by decide +kernel
theorem dX12_above_24 : decode cX12_above 24 = .ok (.goto 14, 3) := by decide +kernel
theorem dX12_above_27 : decode cX12_above 27 = .ok (.iload_n 0, 1) := by decide +kernel
theorem dX12_above_28 : decode cX12_above 28 = .ok (.bipush 7, 2) := by decide +kernel
theorem dX12_above_30 : decode cX12_above 30 = .ok (.if_icmp .ne 7, 3) := by decide +kernel
theorem dX12_above_33 : decode cX12_above 33 = .ok (.iconst 4, 1) := by decide +kernel
theorem dX12_above_34 : decode cX12_above 34 = .ok (.goto 4, 3) := by decide +kernel
theorem dX12_above_37 : decode cX12_above 37 = .ok (.iconst 0, 1) := by decide +kernel
theorem dX12_above_38 : decode cX12_above 38 = .ok (.ireturn, 1) := by decide +kernel
def f_X12_above (p1 : Int32) : Option Int32 := if p1 = (3 : Int32) then (some (2 : Int32)) else (if p1 = (4 : Int32) then (some (1 : Int32)) else (if p1 = (5 : Int32) then (some (3 : Int32)) else (if p1 = (7 : Int32) then (some (4 : Int32)) else (some (0 : Int32)))))
set_option maxHeartbeats 4000000 in
set_option maxRecDepth 100000 in
theorem c_X12_above {l : Launch} {g : va_G} {ts : ClassId × ClassId × ClassId} {wf : St → va_W} {σ : St} {p1 : Int32} {r : Int32} (hf : f_X12_above p1 = some r) : ConI l g ts (wf) yX12_above cX12_above 1 (some .int) (rk 0 0) σ [.int p1] r σ := by
  refine ConI_mk .int rfl rfl rfl rfl (by decide) (Nat.le_of_ble_eq_true rfl) ?_
  intro p e s m below meth c A Q ls C hQ hP hD hS hl
  have C : FX p s m _ meth c RX12 cX12_above 1 g ts A := C
  have hx := C.1
  have hb := C.2.1
  have hown := C.2.2.2.1
  have hts := C.2.2.2.2.1
  have hl : lv_has ls 1 [(0, .int p1)] := hl
  rw [f_X12_above] at hf
  refine lv_iload_n hx hb dX12_above_0 rfl (lv_at hl 0 rfl) ?_
  refine lv_iconst (v := 3) hx hb dX12_above_1 (by decide) ?_
  refine lv_icmp_ne (tgt := 9) hx hb dX12_above_2 (by decide) (fun c1 => ?_) (fun c1 => ?_)
  · replace hf := ineg c1 hf
    refine lv_iload_n hx hb dX12_above_9 rfl (lv_at hl 0 rfl) ?_
    refine lv_iconst (v := 4) hx hb dX12_above_10 (by decide) ?_
    refine lv_icmp_ne (tgt := 18) hx hb dX12_above_11 (by decide) (fun c2 => ?_) (fun c2 => ?_)
    · replace hf := ineg c2 hf
      refine lv_iload_n hx hb dX12_above_18 rfl (lv_at hl 0 rfl) ?_
      refine lv_iconst (v := 5) hx hb dX12_above_19 (by decide) ?_
      refine lv_icmp_ne (tgt := 27) hx hb dX12_above_20 (by decide) (fun c3 => ?_) (fun c3 => ?_)
      · replace hf := ineg c3 hf
        refine lv_iload_n hx hb dX12_above_27 rfl (lv_at hl 0 rfl) ?_
        refine lv_bipush (v := 7) hx hb dX12_above_28 (by decide) ?_
        refine lv_icmp_ne (tgt := 37) hx hb dX12_above_30 (by decide) (fun c4 => ?_) (fun c4 => ?_)
        · replace hf := ineg c4 hf
          refine lv_iconst (v := 0) hx hb dX12_above_37 (by decide) ?_
          exact retIp hQ hf dX12_above_38 hP hD hS
        · replace hf := ipos c4 hf
          refine lv_iconst (v := 4) hx hb dX12_above_33 (by decide) ?_
          refine lv_goto (tgt := 38) hx hb dX12_above_34 (by decide) ?_
          exact retIp hQ hf dX12_above_38 hP hD hS
      · replace hf := ipos c3 hf
        refine lv_iconst (v := 3) hx hb dX12_above_23 (by decide) ?_
        refine lv_goto (tgt := 38) hx hb dX12_above_24 (by decide) ?_
        exact retIp hQ hf dX12_above_38 hP hD hS
    · replace hf := ipos c2 hf
      refine lv_iconst (v := 1) hx hb dX12_above_14 (by decide) ?_
      refine lv_goto (tgt := 38) hx hb dX12_above_15 (by decide) ?_
      exact retIp hQ hf dX12_above_38 hP hD hS
  · replace hf := ipos c1 hf
    refine lv_iconst (v := 2) hx hb dX12_above_5 (by decide) ?_
    refine lv_goto (tgt := 38) hx hb dX12_above_6 (by decide) ?_
    exact retIp hQ hf dX12_above_38 hP hD hS
theorem dX12_asSort_0 : decode cX12_asSort 0 = .ok (.iload_n 0, 1) := by decide +kernel
theorem dX12_asSort_1 : decode cX12_asSort 1 = .ok (.ifCond .ne 10, 3) := by decide +kernel
theorem dX12_asSort_4 : decode cX12_asSort 4 = .ok (.lload_n 1, 1) := by decide +kernel
theorem dX12_asSort_5 : decode cX12_asSort 5 = .ok (.l2i, 1) := by decide +kernel
theorem dX12_asSort_6 : decode cX12_asSort 6 = .ok (.i2b, 1) := by decide +kernel
theorem dX12_asSort_7 : decode cX12_asSort 7 = .ok (.i2l, 1) := by decide +kernel
theorem dX12_asSort_8 : decode cX12_asSort 8 = .ok (.goto 46, 3) := by decide +kernel
theorem dX12_asSort_11 : decode cX12_asSort 11 = .ok (.iload_n 0, 1) := by decide +kernel
theorem dX12_asSort_12 : decode cX12_asSort 12 = .ok (.iconst 1, 1) := by decide +kernel
theorem dX12_asSort_13 : decode cX12_asSort 13 = .ok (.if_icmp .ne 10, 3) := by decide +kernel
theorem dX12_asSort_16 : decode cX12_asSort 16 = .ok (.lload_n 1, 1) := by decide +kernel
theorem dX12_asSort_17 : decode cX12_asSort 17 = .ok (.l2i, 1) := by decide +kernel
theorem dX12_asSort_18 : decode cX12_asSort 18 = .ok (.i2s, 1) := by decide +kernel
theorem dX12_asSort_19 : decode cX12_asSort 19 = .ok (.i2l, 1) := by decide +kernel
theorem dX12_asSort_20 : decode cX12_asSort 20 = .ok (.goto 34, 3) := by decide +kernel
theorem dX12_asSort_23 : decode cX12_asSort 23 = .ok (.iload_n 0, 1) := by decide +kernel
theorem dX12_asSort_24 : decode cX12_asSort 24 = .ok (.iconst 2, 1) := by decide +kernel
theorem dX12_asSort_25 : decode cX12_asSort 25 = .ok (.if_icmp .ne 9, 3) := by decide +kernel
theorem dX12_asSort_28 : decode cX12_asSort 28 = .ok (.lload_n 1, 1) := by decide +kernel
theorem dX12_asSort_29 : decode cX12_asSort 29 = .ok (.l2i, 1) := by decide +kernel
theorem dX12_asSort_30 : decode cX12_asSort 30 = .ok (.i2l, 1) := by decide +kernel
theorem dX12_asSort_31 : decode cX12_asSort 31 = .ok (.goto 23, 3) := by decide +kernel
theorem dX12_asSort_34 : decode cX12_asSort 34 = .ok (.iload_n 0, 1) := by decide +kernel
theorem dX12_asSort_35 : decode cX12_asSort 35 = .ok (.iconst 4, 1) := by decide +kernel
theorem dX12_asSort_36 : decode cX12_asSort 36 = .ok (.if_icmp .ne 17, 3) := by decide +kernel
theorem dX12_asSort_39 : decode cX12_asSort 39 = .ok (.lload_n 1, 1) := by decide +kernel
theorem dX12_asSort_40 : decode cX12_asSort 40 = .ok (.lconst 0, 1) := by decide +kernel
theorem dX12_asSort_41 : decode cX12_asSort 41 = .ok (.lcmp, 1) := by decide +kernel
theorem dX12_asSort_42 : decode cX12_asSort 42 = .ok (.ifCond .eq 7, 3) := by decide +kernel
theorem dX12_asSort_45 : decode cX12_asSort 45 = .ok (.lconst 1, 1) := by decide +kernel
theorem dX12_asSort_46 : decode cX12_asSort 46 = .ok (.goto 8, 3) := by decide +kernel
theorem dX12_asSort_49 : decode cX12_asSort 49 = .ok (.lconst 0, 1) := by decide +kernel
theorem dX12_asSort_50 : decode cX12_asSort 50 = .ok (.goto 4, 3) := by decide +kernel
theorem dX12_asSort_53 : decode cX12_asSort 53 = .ok (.lload_n 1, 1) := by decide +kernel
theorem dX12_asSort_54 : decode cX12_asSort 54 = .ok (.lreturn, 1) := by decide +kernel
def f_X12_asSort (p1 : Int32) (p2 : Int64) : Option Int64 := if p1 = 0 then (some ((((((p2 : Int64).toInt32) : Int32).toInt8.toInt32) : Int32).toInt64)) else (if p1 = (1 : Int32) then (some ((((((p2 : Int64).toInt32) : Int32).toInt16.toInt32) : Int32).toInt64)) else (if p1 = (2 : Int32) then (some ((((p2 : Int64).toInt32) : Int32).toInt64)) else (if p1 = (4 : Int32) then (if p2 = (0 : Int64) then (some (0 : Int64)) else (some (1 : Int64))) else (some p2))))
set_option maxHeartbeats 4000000 in
set_option maxRecDepth 100000 in
theorem c_X12_asSort {l : Launch} {g : va_G} {ts : ClassId × ClassId × ClassId} {wf : St → va_W} {σ : St} {p1 : Int32} {p2 : Int64} {r : Int64} (hf : f_X12_asSort p1 p2 = some r) : ConL l g ts (wf) yX12_asSort cX12_asSort 3 (some .long) (rk 0 0) σ [.int p1, .long p2] r σ := by
  refine ConL_mk rfl rfl (by decide) (Nat.le_of_ble_eq_true rfl) ?_
  intro p e s m below meth c A Q ls C hQ hP hD hS hl
  have C : FX p s m _ meth c RX12 cX12_asSort 3 g ts A := C
  have hx := C.1
  have hb := C.2.1
  have hown := C.2.2.2.1
  have hts := C.2.2.2.2.1
  have hl : lv_has ls 3 [(0, .int p1), (1, .long p2)] := hl
  rw [f_X12_asSort] at hf
  refine lv_iload_n hx hb dX12_asSort_0 rfl (lv_at hl 0 rfl) ?_
  refine lv_if_ne (tgt := 11) hx hb dX12_asSort_1 (by decide) (fun c1 => ?_) (fun c1 => ?_)
  · replace hf := ineg c1 hf
    refine lv_iload_n hx hb dX12_asSort_11 rfl (lv_at hl 0 rfl) ?_
    refine lv_iconst (v := 1) hx hb dX12_asSort_12 (by decide) ?_
    refine lv_icmp_ne (tgt := 23) hx hb dX12_asSort_13 (by decide) (fun c2 => ?_) (fun c2 => ?_)
    · replace hf := ineg c2 hf
      refine lv_iload_n hx hb dX12_asSort_23 rfl (lv_at hl 0 rfl) ?_
      refine lv_iconst (v := 2) hx hb dX12_asSort_24 (by decide) ?_
      refine lv_icmp_ne (tgt := 34) hx hb dX12_asSort_25 (by decide) (fun c3 => ?_) (fun c3 => ?_)
      · replace hf := ineg c3 hf
        refine lv_iload_n hx hb dX12_asSort_34 rfl (lv_at hl 0 rfl) ?_
        refine lv_iconst (v := 4) hx hb dX12_asSort_35 (by decide) ?_
        refine lv_icmp_ne (tgt := 53) hx hb dX12_asSort_36 (by decide) (fun c4 => ?_) (fun c4 => ?_)
        · replace hf := ineg c4 hf
          refine lv_lload_n hx hb dX12_asSort_53 rfl (lv_at hl 1 rfl) ?_
          exact retLp hQ hf dX12_asSort_54 hP hD hS
        · replace hf := ipos c4 hf
          refine lv_lload_n hx hb dX12_asSort_39 rfl (lv_at hl 1 rfl) ?_
          refine lv_lconst (v := 0) hx hb dX12_asSort_40 (by decide) ?_
          refine lb_eq (tgt := 49) hx hb dX12_asSort_41 dX12_asSort_42 (by decide) (fun c5 => ?_) (fun c5 => ?_)
          · replace hf := ipos c5 hf
            refine lv_lconst (v := 0) hx hb dX12_asSort_49 (by decide) ?_
            refine lv_goto (tgt := 54) hx hb dX12_asSort_50 (by decide) ?_
            exact retLp hQ hf dX12_asSort_54 hP hD hS
          · replace hf := ineg c5 hf
            refine lv_lconst (v := 1) hx hb dX12_asSort_45 (by decide) ?_
            refine lv_goto (tgt := 54) hx hb dX12_asSort_46 (by decide) ?_
            exact retLp hQ hf dX12_asSort_54 hP hD hS
      · replace hf := ipos c3 hf
        refine lv_lload_n hx hb dX12_asSort_28 rfl (lv_at hl 1 rfl) ?_
        refine lv_l2i (v := (p2 : Int64).toInt32) hx hb dX12_asSort_29 rfl ?_
        refine lv_i2l (v := (((p2 : Int64).toInt32) : Int32).toInt64) hx hb dX12_asSort_30 rfl ?_
        refine lv_goto (tgt := 54) hx hb dX12_asSort_31 (by decide) ?_
        exact retLp hQ hf dX12_asSort_54 hP hD hS
    · replace hf := ipos c2 hf
      refine lv_lload_n hx hb dX12_asSort_16 rfl (lv_at hl 1 rfl) ?_
      refine lv_l2i (v := (p2 : Int64).toInt32) hx hb dX12_asSort_17 rfl ?_
      refine lv_i2s (v := (((p2 : Int64).toInt32) : Int32).toInt16.toInt32) hx hb dX12_asSort_18 rfl ?_
      refine lv_i2l (v := (((((p2 : Int64).toInt32) : Int32).toInt16.toInt32) : Int32).toInt64) hx hb dX12_asSort_19 rfl ?_
      refine lv_goto (tgt := 54) hx hb dX12_asSort_20 (by decide) ?_
      exact retLp hQ hf dX12_asSort_54 hP hD hS
  · replace hf := ipos c1 hf
    refine lv_lload_n hx hb dX12_asSort_4 rfl (lv_at hl 1 rfl) ?_
    refine lv_l2i (v := (p2 : Int64).toInt32) hx hb dX12_asSort_5 rfl ?_
    refine lv_i2b (v := (((p2 : Int64).toInt32) : Int32).toInt8.toInt32) hx hb dX12_asSort_6 rfl ?_
    refine lv_i2l (v := (((((p2 : Int64).toInt32) : Int32).toInt8.toInt32) : Int32).toInt64) hx hb dX12_asSort_7 rfl ?_
    refine lv_goto (tgt := 54) hx hb dX12_asSort_8 (by decide) ?_
    exact retLp hQ hf dX12_asSort_54 hP hD hS
