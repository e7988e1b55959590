theorem mv_X12_fits : MV yX12_fits cX12_fits 3 (some .int) 2 := ⟨q_1467, q_1468, q_71, q_1469, by decide +kernel, by decide +kernel, by decide +kernel⟩
theorem mv_X12_draws : MV yX12_draws cX12_draws 2 (some .int) 1 := ⟨q_1481, q_47, q_71, q_1482, by decide +kernel, by decide +kernel, by decide +kernel⟩
theorem mv_X12_drawnFor : MV yX12_drawnFor cX12_drawnFor 7 (some .int) 2 := ⟨q_1477, q_46, q_71, q_1478, by decide +kernel, by decide +kernel, by decide +kernel⟩
theorem mv_X12_drawn : MV yX12_drawn cX12_drawn 10 (some .int) 3 := ⟨q_1471, q_1472, q_71, q_1473, by decide +kernel, by decide +kernel, by decide +kernel⟩
theorem mv_X12_call : MV yX12_call cX12_call 4 (some .int) 2 := ⟨q_1485, q_1486, q_71, q_1487, by decide +kernel, by decide +kernel, by decide +kernel⟩
theorem mv_X12_say : MV yX12_say cX12_say 6 (some .int) 2 := ⟨q_1489, q_1490, q_71, q_1491, by decide +kernel, by decide +kernel, by decide +kernel⟩
theorem mv_X12_noted : MV yX12_noted cX12_noted 2 (some .int) 1 := ⟨q_1493, q_1494, q_71, q_1495, by decide +kernel, by decide +kernel, by decide +kernel⟩
theorem mv_X12_wrongNoted : MV yX12_wrongNoted cX12_wrongNoted 3 (some .int) 0 := ⟨q_1506, q_48, q_71, q_1507, by decide +kernel, by decide +kernel, by decide +kernel⟩
theorem mv_X12_hang : MV yX12_hang cX12_hang 3 (some .int) 0 := ⟨q_1497, q_1498, q_71, q_1499, by decide +kernel, by decide +kernel, by decide +kernel⟩
theorem mv_X12_led : MV yX12_led cX12_led 2 (some .int) 1 := ⟨q_1501, q_1502, q_71, q_1503, by decide +kernel, by decide +kernel, by decide +kernel⟩
theorem mv_X12_image : MV yX12_image cX12_image 2 (some .int) 0 := ⟨q_1509, q_1510, q_71, q_1511, by decide +kernel, by decide +kernel, by decide +kernel⟩
theorem mv_X12_back : MV yX12_back cX12_back 2 (some .int) 0 := ⟨q_1513, q_1514, q_71, q_1515, by decide +kernel, by decide +kernel, by decide +kernel⟩
theorem mv_X12_isBody : MV yX12_isBody cX12_isBody 2 (some .boolean) 1 := ⟨q_1527, q_49, q_71, q_1528, by decide +kernel, by decide +kernel, by decide +kernel⟩
theorem mv_X12_kindOf : MV yX12_kindOf cX12_kindOf 2 (some .int) 1 := ⟨q_1587, q_56, q_71, q_1588, by decide +kernel, by decide +kernel, by decide +kernel⟩
theorem mv_X12_body : MV yX12_body cX12_body 2 (some .int) 1 := ⟨q_1517, q_1518, q_71, q_1519, by decide +kernel, by decide +kernel, by decide +kernel⟩
theorem mv_X12_act : MV yX12_act cX12_act 4 (some .int) 3 := ⟨q_1522, q_1523, q_71, q_1524, by decide +kernel, by decide +kernel, by decide +kernel⟩
theorem mv_X12_trace : MV yX12_trace cX12_trace 2 (some .int) 1 := ⟨q_1550, q_1551, q_71, q_1552, by decide +kernel, by decide +kernel, by decide +kernel⟩
theorem mv_X12_keep : MV yX12_keep cX12_keep 3 (some .int) 2 := ⟨q_1554, q_1555, q_71, q_1556, by decide +kernel, by decide +kernel, by decide +kernel⟩
theorem mv_X12_row : MV yX12_row cX12_row 5 (some .int) 3 := ⟨q_1558, q_1559, q_71, q_1560, by decide +kernel, by decide +kernel, by decide +kernel⟩
theorem mv_X12_refusal : MV yX12_refusal cX12_refusal 3 (some .int) 2 := ⟨q_1568, q_55, q_71, q_1569, by decide +kernel, by decide +kernel, by decide +kernel⟩
theorem mv_X12_put : MV yX12_put cX12_put 6 (some .int) 3 := ⟨q_1563, q_1564, q_71, q_1565, by decide +kernel, by decide +kernel, by decide +kernel⟩
theorem mv_X12_element : MV yX12_element cX12_element 3 (some .long) 2 := ⟨q_1574, q_1575, q_71, q_1576, by decide +kernel, by decide +kernel, by decide +kernel⟩
theorem mv_X12_shift : MV yX12_shift cX12_shift 7 (some .int) 5 := ⟨q_1578, q_1579, q_71, q_1580, by decide +kernel, by decide +kernel, by decide +kernel⟩
theorem mv_X12_taken : MV yX12_taken cX12_taken 4 (some .int) 2 := ⟨q_1582, q_1583, q_71, q_1584, by decide +kernel, by decide +kernel, by decide +kernel⟩
theorem mv_X12_count : MV yX12_count cX12_count 2 (some .int) 1 := ⟨q_1593, q_1594, q_71, q_1595, by decide +kernel, by decide +kernel, by decide +kernel⟩
theorem dX12_fits_0 : decode cX12_fits 0 = .ok (.aload_n 0, 1) := by decide +kernel
theorem dX12_fits_1 : decode cX12_fits 1 = .ok (.iload_n 1, 1) := by decide +kernel
theorem dX12_fits_2 : decode cX12_fits 2 = .ok (.invokevirtual 104, 3) := by decide +kernel
theorem dX12_fits_5 : decode cX12_fits 5 = .ok (.iconst (-1), 1) := by decide +kernel
theorem dX12_fits_6 : decode cX12_fits 6 = .ok (.if_icmp .eq 11, 3) := by decide +kernel
theorem dX12_fits_9 : decode cX12_fits 9 = .ok (.aload_n 0, 1) := by decide +kernel
theorem dX12_fits_10 : decode cX12_fits 10 = .ok (.iload_n 2, 1) := by decide +kernel
theorem dX12_fits_11 : decode cX12_fits 11 = .ok (.invokevirtual 116, 3) := by decide +kernel
theorem dX12_fits_14 : decode cX12_fits 14 = .ok (.ifCond .ne 5, 3) := by decide +kernel
theorem dX12_fits_17 : decode cX12_fits 17 = .ok (.iconst (-1), 1) := by decide +kernel
theorem dX12_fits_18 : decode cX12_fits 18 = .ok (.ireturn, 1) := by decide +kernel
theorem dX12_fits_19 : decode cX12_fits 19 = .ok (.aload_n 0, 1) := by decide +kernel
theorem dX12_fits_20 : decode cX12_fits 20 = .ok (.iload_n 1, 1) := by decide +kernel
theorem dX12_fits_21 : decode cX12_fits 21 = .ok (.invokevirtual 104, 3) := by decide +kernel
theorem dX12_fits_24 : decode cX12_fits 24 = .ok (.ifCond .ge 11, 3) := by decide +kernel
theorem dX12_fits_27 : decode cX12_fits 27 = .ok (.aload_n 0, 1) := by decide +kernel
theorem dX12_fits_28 : decode cX12_fits 28 = .ok (.iload_n 1, 1) := by decide +kernel
theorem dX12_fits_29 : decode cX12_fits 29 = .ok (.invokevirtual 104, 3) := by decide +kernel
theorem dX12_fits_32 : decode cX12_fits 32 = .ok (.goto 9, 3) := by decide +kernel
theorem dX12_fits_35 : decode cX12_fits 35 = .ok (.aload_n 0, 1) := by decide +kernel
theorem dX12_fits_36 : decode cX12_fits 36 = .ok (.iload_n 1, 1) := by decide +kernel
theorem dX12_fits_37 : decode cX12_fits 37 = .ok (.iload_n 2, 1) := by decide +kernel
theorem dX12_fits_38 : decode cX12_fits 38 = .ok (.invokevirtual 263, 3) := by decide +kernel
theorem dX12_fits_41 : decode cX12_fits 41 = .ok (.ireturn, 1) := by decide +kernel
def f_X12_fits (σ : St) (p1 : Int32) (p2 : Int32) : Option (Int32 × St) := bnd2 (f_X12_bytesIs σ p1) (fun r2 σ3 => if r2 = (-1 : Int32) then (some ((-1 : Int32), σ3)) else (bnd2 (f_X12_isName σ3 p2) (fun r6 σ7 => if r6 = 0 then (some ((-1 : Int32), σ7)) else (bnd2 (f_X12_bytesIs σ7 p1) (fun r10 σ11 => if 0 ≤ r10 then (bnd2 (f_X12_misfit σ11 p1 p2) (fun r14 σ15 => some (r14, σ15))) else (bnd2 (f_X12_bytesIs σ11 p1) (fun r17 σ18 => some (r17, σ18))))))))
set_option maxHeartbeats 4000000 in
set_option maxRecDepth 100000 in
theorem c_X12_fits {l : Launch} {g : va_G} {ts : ClassId × ClassId × ClassId} {a : Nat → Nat} {σ : St} {p1 : Int32} {p2 : Int32} {r : Int32} {σ' : St} (hf : f_X12_fits σ p1 p2 = some (r, σ')) : ConI l g ts (WM ts a) yX12_fits cX12_fits 3 (some .int) (rk 102 2206) σ [.ref (a 0), .int p1, .int p2] r σ' := by
  refine ConI_mk .int rfl rfl rfl rfl (by decide) (Nat.le_of_ble_eq_true rfl) ?_
  intro p e s m below meth c A Q ls C hQ hP hD hS hl
  have C : FX p s m _ meth c RX12 cX12_fits 3 g ts A := C
  have hx := C.1
  have hb := C.2.1
  have hown := C.2.2.2.1
  have hts := C.2.2.2.2.1
  have hl : lv_has ls 3 [(0, .ref (a 0)), (1, .int p1), (2, .int p2)] := hl
  rw [f_X12_fits] at hf
  refine lv_aload_n hx hb dX12_fits_0 rfl (lv_at hl 0 rfl) ?_
  refine lv_iload_n hx hb dX12_fits_1 rfl (lv_at hl 1 rfl) ?_
  obtain ⟨r2, σ3, h1, hf⟩ := bnd2_some hf
  refine vI [] C hP hD hS (c_X12_bytesIs h1) mv_X12_bytesIs q_1222 rv_X12 dX12_fits_2 ⟨Nat.le_of_ble_eq_true rfl, Nat.le_of_ble_eq_true rfl⟩ ⟨Nat.zero_le _, Nat.zero_le _⟩ rfl rfl (Nat.le_of_ble_eq_true rfl) hl.1 (fun H locs hP hD hS => ?_)
  refine lv_iconst (v := -1) hx hb dX12_fits_5 (by decide) ?_
  refine lv_icmp_eq (tgt := 17) hx hb dX12_fits_6 (by decide) (fun c4 => ?_) (fun c4 => ?_)
  · replace hf := ipos c4 hf
    refine lv_iconst (v := -1) hx hb dX12_fits_17 (by decide) ?_
    exact retI hQ hf dX12_fits_18 hP hD hS
  · replace hf := ineg c4 hf
    refine lv_aload_n hx hb dX12_fits_9 rfl (lv_at hl 0 rfl) ?_
    refine lv_iload_n hx hb dX12_fits_10 rfl (lv_at hl 2 rfl) ?_
    obtain ⟨r6, σ7, h5, hf⟩ := bnd2_some hf
    refine vI [] C hP hD hS (c_X12_isName h5) mv_X12_isName q_1242 rv_X12 dX12_fits_11 ⟨Nat.le_of_ble_eq_true rfl, Nat.le_of_ble_eq_true rfl⟩ ⟨Nat.zero_le _, Nat.zero_le _⟩ rfl rfl (Nat.le_of_ble_eq_true rfl) hl.1 (fun H locs hP hD hS => ?_)
    refine lv_if_ne (tgt := 19) hx hb dX12_fits_14 (by decide) (fun c8 => ?_) (fun c8 => ?_)
    · replace hf := ineg c8 hf
      refine lv_aload_n hx hb dX12_fits_19 rfl (lv_at hl 0 rfl) ?_
      refine lv_iload_n hx hb dX12_fits_20 rfl (lv_at hl 1 rfl) ?_
      obtain ⟨r10, σ11, h9, hf⟩ := bnd2_some hf
      refine vI [] C hP hD hS (c_X12_bytesIs h9) mv_X12_bytesIs q_1222 rv_X12 dX12_fits_21 ⟨Nat.le_of_ble_eq_true rfl, Nat.le_of_ble_eq_true rfl⟩ ⟨Nat.zero_le _, Nat.zero_le _⟩ rfl rfl (Nat.le_of_ble_eq_true rfl) hl.1 (fun H locs hP hD hS => ?_)
      refine lv_if_ge (tgt := 35) hx hb dX12_fits_24 (by decide) (fun c12 => ?_) (fun c12 => ?_)
      · replace hf := ipos c12 hf
        refine lv_aload_n hx hb dX12_fits_35 rfl (lv_at hl 0 rfl) ?_
        refine lv_iload_n hx hb dX12_fits_36 rfl (lv_at hl 1 rfl) ?_
        refine lv_iload_n hx hb dX12_fits_37 rfl (lv_at hl 2 rfl) ?_
        obtain ⟨r14, σ15, h13, hf⟩ := bnd2_some hf
        refine vI [] C hP hD hS (c_X12_misfit h13) mv_X12_misfit q_1457 rv_X12 dX12_fits_38 ⟨Nat.le_of_ble_eq_true rfl, Nat.le_of_ble_eq_true rfl⟩ ⟨Nat.zero_le _, Nat.zero_le _⟩ rfl rfl (Nat.le_of_ble_eq_true rfl) hl.1 (fun H locs hP hD hS => ?_)
        exact retI hQ hf dX12_fits_41 hP hD hS
      · replace hf := ineg c12 hf
        refine lv_aload_n hx hb dX12_fits_27 rfl (lv_at hl 0 rfl) ?_
        refine lv_iload_n hx hb dX12_fits_28 rfl (lv_at hl 1 rfl) ?_
        obtain ⟨r17, σ18, h16, hf⟩ := bnd2_some hf
        refine vI [] C hP hD hS (c_X12_bytesIs h16) mv_X12_bytesIs q_1222 rv_X12 dX12_fits_29 ⟨Nat.le_of_ble_eq_true rfl, Nat.le_of_ble_eq_true rfl⟩ ⟨Nat.zero_le _, Nat.zero_le _⟩ rfl rfl (Nat.le_of_ble_eq_true rfl) hl.1 (fun H locs hP hD hS => ?_)
        refine lv_goto (tgt := 41) hx hb dX12_fits_32 (by decide) ?_
        exact retI hQ hf dX12_fits_41 hP hD hS
    · replace hf := ipos c8 hf
      refine lv_iconst (v := -1) hx hb dX12_fits_17 (by decide) ?_
      exact retI hQ hf dX12_fits_18 hP hD hS
theorem dX12_draws_0 : decode cX12_draws 0 = .ok (.aload_n 0, 1) := by decide +kernel
theorem dX12_draws_1 : decode cX12_draws 1 = .ok (.aload_n 0, 1) := by decide +kernel
theorem dX12_draws_2 : decode cX12_draws 2 = .ok (.getfield 269, 3) := by decide +kernel
theorem dX12_draws_5 : decode cX12_draws 5 = .ok (.ldc_w 272, 3) := by decide +kernel
theorem dX12_draws_8 : decode cX12_draws 8 = .ok (.imul, 1) := by decide +kernel
theorem dX12_draws_9 : decode cX12_draws 9 = .ok (.sipush 12345, 3) := by decide +kernel
theorem dX12_draws_12 : decode cX12_draws 12 = .ok (.iadd, 1) := by decide +kernel
theorem dX12_draws_13 : decode cX12_draws 13 = .ok (.putfield 269, 3) := by decide +kernel
theorem dX12_draws_16 : decode cX12_draws 16 = .ok (.aload_n 0, 1) := by decide +kernel
theorem dX12_draws_17 : decode cX12_draws 17 = .ok (.getfield 269, 3) := by decide +kernel
theorem dX12_draws_20 : decode cX12_draws 20 = .ok (.bipush 8, 2) := by decide +kernel
theorem dX12_draws_22 : decode cX12_draws 22 = .ok (.iushr, 1) := by decide +kernel
theorem dX12_draws_23 : decode cX12_draws 23 = .ok (.iload_n 1, 1) := by decide +kernel
theorem dX12_draws_24 : decode cX12_draws 24 = .ok (.irem, 1) := by decide +kernel
theorem dX12_draws_25 : decode cX12_draws 25 = .ok (.ireturn, 1) := by decide +kernel
def f_X12_draws (σ : St) (p1 : Int32) : Option (Int32 × St) := bnd (sI σ 622 0 (((σ.1 622 0) * (1103515245 : Int32)) + (12345 : Int32))) (fun σ1 => chk (p1 = 0) (some ((((σ1.1 622 0).toUInt32 >>> (((8 : Int32) : Int32).toUInt32 &&& Int32.toUInt32 31)).toInt32) - (((σ1.1 622 0).toUInt32 >>> (((8 : Int32) : Int32).toUInt32 &&& Int32.toUInt32 31)).toInt32) / p1 * p1, σ1)))
set_option maxHeartbeats 4000000 in
set_option maxRecDepth 100000 in
theorem c_X12_draws {l : Launch} {g : va_G} {ts : ClassId × ClassId × ClassId} {a : Nat → Nat} {σ : St} {p1 : Int32} {r : Int32} {σ' : St} (hf : f_X12_draws σ p1 = some (r, σ')) : ConI l g ts (WM ts a) yX12_draws cX12_draws 2 (some .int) (rk 0 0) σ [.ref (a 0), .int p1] r σ' := by
  refine ConI_mk .int rfl rfl rfl rfl (by decide) (Nat.le_of_ble_eq_true rfl) ?_
  intro p e s m below meth c A Q ls C hQ hP hD hS hl
  have C : FX p s m _ meth c RX12 cX12_draws 2 g ts A := C
  have hx := C.1
  have hb := C.2.1
  have hown := C.2.2.2.1
  have hts := C.2.2.2.2.1
  have hl : lv_has ls 2 [(0, .ref (a 0)), (1, .int p1)] := hl
  rw [f_X12_draws] at hf
  refine lv_aload_n hx hb dX12_draws_0 rfl (lv_at hl 0 rfl) ?_
  refine lv_aload_n hx hb dX12_draws_1 rfl (lv_at hl 0 rfl) ?_
  refine G_X12_z C hP q_1094 dX12_draws_2 ?_
  refine lv_ldcw hx hb hown (hts _ q_1483) dX12_draws_5 ?_
  refine lv_imul hx hb dX12_draws_8 ?_
  refine lv_sipush (v := 12345) hx hb dX12_draws_9 (by decide) ?_
  refine lv_iadd hx hb dX12_draws_12 ?_
  refine S_X12_z C hP hD hS q_1094 dX12_draws_13 (fun H locs hP hD hS => ?_)
  refine nameS hP hD hf (fun σ1 hP hD hf => ?_)
  refine lv_aload_n hx hb dX12_draws_16 rfl (lv_at hl 0 rfl) ?_
  refine G_X12_z C hP q_1094 dX12_draws_17 ?_
  refine lv_bipush (v := 8) hx hb dX12_draws_20 (by decide) ?_
  refine lv_iushr (v := ((σ1.1 622 0).toUInt32 >>> (((8 : Int32) : Int32).toUInt32 &&& Int32.toUInt32 31)).toInt32) hx hb dX12_draws_22 rfl ?_
  refine lv_iload_n hx hb dX12_draws_23 rfl (lv_at hl 1 rfl) ?_
  obtain ⟨h2, hf⟩ := chk_some hf
  refine lv_irem hx hb dX12_draws_24 h2 ?_
  exact retI hQ hf dX12_draws_25 hP hD hS
theorem dX12_drawnFor_0 : decode cX12_drawnFor 0 = .ok (.aload_n 0, 1) := by decide +kernel
theorem dX12_drawnFor_1 : decode cX12_drawnFor 1 = .ok (.iload_n 1, 1) := by decide +kernel
theorem dX12_drawnFor_2 : decode cX12_drawnFor 2 = .ok (.iload_n 2, 1) := by decide +kernel
theorem dX12_drawnFor_3 : decode cX12_drawnFor 3 = .ok (.invokevirtual 193, 3) := by decide +kernel
theorem dX12_drawnFor_6 : decode cX12_drawnFor 6 = .ok (.istore_n 3, 1) := by decide +kernel
theorem dX12_drawnFor_7 : decode cX12_drawnFor 7 = .ok (.iload_n 3, 1) := by decide +kernel
theorem dX12_drawnFor_8 : decode cX12_drawnFor 8 = .ok (.ifCond .ne 5, 3) := by decide +kernel
theorem dX12_drawnFor_11 : decode cX12_drawnFor 11 = .ok (.iload_n 1, 1) := by decide +kernel
theorem dX12_drawnFor_12 : decode cX12_drawnFor 12 = .ok (.ireturn, 1) := by decide +kernel
theorem dX12_drawnFor_13 : decode cX12_drawnFor 13 = .ok (.aload_n 0, 1) := by decide +kernel
theorem dX12_drawnFor_14 : decode cX12_drawnFor 14 = .ok (.iload_n 3, 1) := by decide +kernel
theorem dX12_drawnFor_15 : decode cX12_drawnFor 15 = .ok (.invokevirtual 273, 3) := by decide +kernel
theorem dX12_drawnFor_18 : decode cX12_drawnFor 18 = .ok (.istore 4, 2) := by decide +kernel
theorem dX12_drawnFor_20 : decode cX12_drawnFor 20 = .ok (.iconst 0, 1) := by decide +kernel
theorem dX12_drawnFor_21 : decode cX12_drawnFor 21 = .ok (.istore 5, 2) := by decide +kernel
theorem dX12_drawnFor_23 : decode cX12_drawnFor 23 = .ok (.aload_n 0, 1) := by decide +kernel
theorem dX12_drawnFor_24 : decode cX12_drawnFor 24 = .ok (.getfield 39, 3) := by decide +kernel
theorem dX12_drawnFor_27 : decode cX12_drawnFor 27 = .ok (.iconst 0, 1) := by decide +kernel
theorem dX12_drawnFor_28 : decode cX12_drawnFor 28 = .ok (.iaload, 1) := by decide +kernel
theorem dX12_drawnFor_29 : decode cX12_drawnFor 29 = .ok (.istore 6, 2) := by decide +kernel
theorem dX12_drawnFor_31 : decode cX12_drawnFor 31 = .ok (.iload 6, 2) := by decide +kernel
theorem dX12_drawnFor_33 : decode cX12_drawnFor 33 = .ok (.iload 4, 2) := by decide +kernel
theorem dX12_drawnFor_35 : decode cX12_drawnFor 35 = .ok (.if_icmp .gt 21, 3) := by decide +kernel
theorem dX12_drawnFor_38 : decode cX12_drawnFor 38 = .ok (.iinc 5 1, 3) := by decide +kernel
theorem dX12_drawnFor_41 : decode cX12_drawnFor 41 = .ok (.iload 6, 2) := by decide +kernel
theorem dX12_drawnFor_43 : decode cX12_drawnFor 43 = .ok (.aload_n 0, 1) := by decide +kernel
theorem dX12_drawnFor_44 : decode cX12_drawnFor 44 = .ok (.getfield 39, 3) := by decide +kernel
theorem dX12_drawnFor_47 : decode cX12_drawnFor 47 = .ok (.iload 5, 2) := by decide +kernel
theorem dX12_drawnFor_49 : decode cX12_drawnFor 49 = .ok (.iaload, 1) := by decide +kernel
theorem dX12_drawnFor_50 : decode cX12_drawnFor 50 = .ok (.iadd, 1) := by decide +kernel
theorem dX12_drawnFor_51 : decode cX12_drawnFor 51 = .ok (.istore 6, 2) := by decide +kernel
theorem dX12_drawnFor_53 : decode cX12_drawnFor 53 = .ok (.goto (-22), 3) := by decide +kernel
theorem dX12_drawnFor_56 : decode cX12_drawnFor 56 = .ok (.iload 5, 2) := by decide +kernel
theorem dX12_drawnFor_58 : decode cX12_drawnFor 58 = .ok (.ireturn, 1) := by decide +kernel
def f_X12_drawnFor_b31 : Nat → St → Int32 → Int32 → Int32 → Option (Int32 × St)
  | 0, _, _, _, _ => none
  | n + 1, σ, x4, x5, x6 => if x4 < x6 then (some (x5, σ)) else (bnd (x5 + 1) (fun v10 => chk (v10 < 0 ∨ 12 ≤ v10.toNatClampNeg) (bnd (x6 + (σ.2.2.1 619 0 v10.toNatClampNeg)) (fun v12 => f_X12_drawnFor_b31 n σ x4 v10 v12))))
def f_X12_drawnFor (σ : St) (p1 : Int32) (p2 : Int32) : Option (Int32 × St) := bnd2 (f_X12_asksWeights σ p1 p2) (fun r2 σ3 => if r2 = 0 then (some (p1, σ3)) else (bnd2 (f_X12_draws σ3 r2) (fun r6 σ7 => bnd (σ7.2.2.1 619 0 (0 : Int32).toNatClampNeg) (fun v8 => f_X12_drawnFor_b31 256 σ7 r6 (0 : Int32) v8))))
set_option maxHeartbeats 4000000 in
set_option maxRecDepth 100000 in
theorem w_X12_drawnFor_b31 {p : Program} {l : Launch} {e : Env} {s : State} {m : MethodId} {args : Array Value} {below : List Frame} {meth : Method} {c : Code} {g : va_G} {ts : ClassId × ClassId × ClassId} {A : Nat → Prop} {Q : State → Prop} {a : Nat → Nat} {r : Int32} {σ' : St} (C : FX p s m args meth c RX12 cX12_drawnFor 7 g ts A) (hQ : RetI p l e (rk 100 2157) s m args below meth c cX12_drawnFor g (WM ts a) A r σ' Q) : ∀ (n : Nat) (σ : St) (x4 : Int32) (x5 : Int32) (x6 : Int32) (H : Heap) (locs : List Loc) (ls : Array Slot), f_X12_drawnFor_b31 n σ x4 x5 x6 = some (r, σ') → va_P g classes (WM ts a σ) H → va_D A (WM ts a σ) → va_S A s.heap H locs → lv_has ls 7 [(0, .ref (a 0)), (4, .int x4), (5, .int x5), (6, .int x6)] → W p l e (rk 100 2157) s m args below meth c H locs 0 0 Q (F0 m 31 ls []) := by
  have hx := C.1
  have hb := C.2.1
  have hown := C.2.2.2.1
  have hts := C.2.2.2.2.1
  intro n
  induction n with
  | zero =>
    intro σ x4 x5 x6 H locs ls hf
    cases hf
  | succ n ih =>
    intro σ x4 x5 x6 H locs ls hf hP hD hS hl
    rw [f_X12_drawnFor_b31] at hf
    refine lv_iload hx hb dX12_drawnFor_31 (lv_at hl 3 rfl) ?_
    refine lv_iload hx hb dX12_drawnFor_33 (lv_at hl 1 rfl) ?_
    refine lv_icmp_gt (tgt := 56) hx hb dX12_drawnFor_35 (by decide) (fun c9 => ?_) (fun c9 => ?_)
    · replace hf := ipos c9 hf
      refine lv_iload hx hb dX12_drawnFor_56 (lv_at hl 2 rfl) ?_
      exact retI hQ hf dX12_drawnFor_58 hP hD hS
    · replace hf := ineg c9 hf
      obtain ⟨v10, ev10⟩ : ∃ z : Int32, z = x5 + 1 := ⟨_, rfl⟩
      replace hf := bnd_at ev10 hf
      refine lv_iinc (v := v10) (lv' := [(5, .int v10), (0, .ref (a 0)), (4, .int x4), (6, .int x6)]) hx hb dX12_drawnFor_38 hl (k := 2) rfl (by rw [ev10]; rfl) (by decide) rfl (fun ls hl => ?_)
      refine lv_iload hx hb dX12_drawnFor_41 (lv_at hl 3 rfl) ?_
      refine lv_aload_n hx hb dX12_drawnFor_43 rfl (lv_at hl 1 rfl) ?_
      refine G_X12_weights C hP q_1091 dX12_drawnFor_44 ?_
      refine lv_iload hx hb dX12_drawnFor_47 (lv_at hl 0 rfl) ?_
      obtain ⟨h11, hf⟩ := chk_some hf
      refine AL_X12_weights C hP h11 dX12_drawnFor_49 ?_
      refine lv_iadd hx hb dX12_drawnFor_50 ?_
      refine lv_topi (fun v12 ev12 => ?_)
      replace hf := bnd_at ev12 hf
      refine lv_istore (lv' := [(6, .int v12), (5, .int v10), (0, .ref (a 0)), (4, .int x4)]) hx hb dX12_drawnFor_51 hl (by decide) rfl (fun ls hl => ?_)
      refine lv_goto (tgt := 31) hx hb dX12_drawnFor_53 (by decide) ?_
      exact ih _ _ _ _ _ _ _ hf hP hD hS (lv_sub hl [2, 3, 1, 0] rfl)
set_option maxHeartbeats 4000000 in
set_option maxRecDepth 100000 in
theorem c_X12_drawnFor {l : Launch} {g : va_G} {ts : ClassId × ClassId × ClassId} {a : Nat → Nat} {σ : St} {p1 : Int32} {p2 : Int32} {r : Int32} {σ' : St} (hf : f_X12_drawnFor σ p1 p2 = some (r, σ')) : ConI l g ts (WM ts a) yX12_drawnFor cX12_drawnFor 7 (some .int) (rk 100 2157) σ [.ref (a 0), .int p1, .int p2] r σ' := by
  refine ConI_mk .int rfl rfl rfl rfl (by decide) (Nat.le_of_ble_eq_true rfl) ?_
  intro p e s m below meth c A Q ls C hQ hP hD hS hl
  have C : FX p s m _ meth c RX12 cX12_drawnFor 7 g ts A := C
  have hx := C.1
  have hb := C.2.1
  have hown := C.2.2.2.1
  have hts := C.2.2.2.2.1
  have hl : lv_has ls 7 [(0, .ref (a 0)), (1, .int p1), (2, .int p2)] := hl
  rw [f_X12_drawnFor] at hf
  refine lv_aload_n hx hb dX12_drawnFor_0 rfl (lv_at hl 0 rfl) ?_
  refine lv_iload_n hx hb dX12_drawnFor_1 rfl (lv_at hl 1 rfl) ?_
  refine lv_iload_n hx hb dX12_drawnFor_2 rfl (lv_at hl 2 rfl) ?_
  obtain ⟨r2, σ3, h1, hf⟩ := bnd2_some hf
  refine vI [] C hP hD hS (c_X12_asksWeights h1) mv_X12_asksWeights q_1327 rv_X12 dX12_drawnFor_3 ⟨Nat.le_of_ble_eq_true rfl, Nat.le_of_ble_eq_true rfl⟩ ⟨Nat.zero_le _, Nat.zero_le _⟩ rfl rfl (Nat.le_of_ble_eq_true rfl) hl.1 (fun H locs hP hD hS => ?_)
  refine lv_istore_n (lv' := [(3, .int r2), (0, .ref (a 0)), (1, .int p1), (2, .int p2)]) hx hb dX12_drawnFor_6 rfl hl (by decide) rfl (fun ls hl => ?_)
  refine lv_iload_n hx hb dX12_drawnFor_7 rfl (lv_at hl 0 rfl) ?_
  refine lv_if_ne (tgt := 13) hx hb dX12_drawnFor_8 (by decide) (fun c4 => ?_) (fun c4 => ?_)
  · replace hf := ineg c4 hf
    refine lv_aload_n hx hb dX12_drawnFor_13 rfl (lv_at hl 1 rfl) ?_
    refine lv_iload_n hx hb dX12_drawnFor_14 rfl (lv_at hl 0 rfl) ?_
    obtain ⟨r6, σ7, h5, hf⟩ := bnd2_some hf
    refine vI [] C hP hD hS (c_X12_draws h5) mv_X12_draws q_1479 rv_X12 dX12_drawnFor_15 ⟨Nat.le_of_ble_eq_true rfl, Nat.le_of_ble_eq_true rfl⟩ ⟨Nat.zero_le _, Nat.zero_le _⟩ rfl rfl (Nat.le_of_ble_eq_true rfl) hl.1 (fun H locs hP hD hS => ?_)
    refine lv_istore (lv' := [(4, .int r6), (3, .int r2), (0, .ref (a 0)), (1, .int p1), (2, .int p2)]) hx hb dX12_drawnFor_18 hl (by decide) rfl (fun ls hl => ?_)
    refine lv_iconst (v := 0) hx hb dX12_drawnFor_20 (by decide) ?_
    refine lv_istore (lv' := [(5, .int (0 : Int32)), (4, .int r6), (3, .int r2), (0, .ref (a 0)), (1, .int p1), (2, .int p2)]) hx hb dX12_drawnFor_21 hl (by decide) rfl (fun ls hl => ?_)
    refine lv_aload_n hx hb dX12_drawnFor_23 rfl (lv_at hl 3 rfl) ?_
    refine G_X12_weights C hP q_1091 dX12_drawnFor_24 ?_
    refine lv_iconst (v := 0) hx hb dX12_drawnFor_27 (by decide) ?_
    refine AL_X12_weights C hP (by decide) dX12_drawnFor_28 ?_
    refine lv_topi (fun v8 ev8 => ?_)
    replace hf := bnd_at ev8 hf
    refine lv_istore (lv' := [(6, .int v8), (5, .int (0 : Int32)), (4, .int r6), (3, .int r2), (0, .ref (a 0)), (1, .int p1), (2, .int p2)]) hx hb dX12_drawnFor_29 hl (by decide) rfl (fun ls hl => ?_)
    exact w_X12_drawnFor_b31 C hQ 256 _ _ _ _ _ _ _ hf hP hD hS (lv_sub hl [4, 2, 1, 0] rfl)
  · replace hf := ipos c4 hf
    refine lv_iload_n hx hb dX12_drawnFor_11 rfl (lv_at hl 2 rfl) ?_
    exact retI hQ hf dX12_drawnFor_12 hP hD hS
theorem dX12_drawn_0 : decode cX12_drawn 0 = .ok (.iload_n 2, 1) := by decide +kernel
theorem dX12_drawn_1 : decode cX12_drawn 1 = .ok (.ifCond .lt 39, 3) := by decide +kernel
theorem dX12_drawn_4 : decode cX12_drawn 4 = .ok (.aload_n 0, 1) := by decide +kernel
theorem dX12_drawn_5 : decode cX12_drawn 5 = .ok (.iload_n 2, 1) := by decide +kernel
theorem dX12_drawn_6 : decode cX12_drawn 6 = .ok (.bipush 100, 2) := by decide +kernel
theorem dX12_drawn_8 : decode cX12_drawn 8 = .ok (.idiv, 1) := by decide +kernel
theorem dX12_drawn_9 : decode cX12_drawn 9 = .ok (.invokevirtual 116, 3) := by decide +kernel
theorem dX12_drawn_12 : decode cX12_drawn 12 = .ok (.ifCond .eq 28, 3) := by decide +kernel
theorem dX12_drawn_15 : decode cX12_drawn 15 = .ok (.iload_n 2, 1) := by decide +kernel
theorem dX12_drawn_16 : decode cX12_drawn 16 = .ok (.bipush 100, 2) := by decide +kernel
theorem dX12_drawn_18 : decode cX12_drawn 18 = .ok (.irem, 1) := by decide +kernel
theorem dX12_drawn_19 : decode cX12_drawn 19 = .ok (.i2l, 1) := by decide +kernel
theorem dX12_drawn_20 : decode cX12_drawn 20 = .ok (.lconst 1, 1) := by decide +kernel
theorem dX12_drawn_21 : decode cX12_drawn 21 = .ok (.ldc2_w 276, 3) := by decide +kernel
theorem dX12_drawn_24 : decode cX12_drawn 24 = .ok (.invokestatic 91, 3) := by decide +kernel
theorem dX12_drawn_27 : decode cX12_drawn 27 = .ok (.ifCond .eq 13, 3) := by decide +kernel
theorem dX12_drawn_30 : decode cX12_drawn 30 = .ok (.iload_n 3, 1) := by decide +kernel
theorem dX12_drawn_31 : decode cX12_drawn 31 = .ok (.i2l, 1) := by decide +kernel
theorem dX12_drawn_32 : decode cX12_drawn 32 = .ok (.lconst 0, 1) := by decide +kernel
theorem dX12_drawn_33 : decode cX12_drawn 33 = .ok (.lconst 1, 1) := by decide +kernel
theorem dX12_drawn_34 : decode cX12_drawn 34 = .ok (.invokestatic 91, 3) := by decide +kernel
theorem dX12_drawn_37 : decode cX12_drawn 37 = .ok (.ifCond .ne 5, 3) := by decide +kernel
theorem dX12_drawn_40 : decode cX12_drawn 40 = .ok (.iconst (-1), 1) := by decide +kernel
theorem dX12_drawn_41 : decode cX12_drawn 41 = .ok (.ireturn, 1) := by decide +kernel
theorem dX12_drawn_42 : decode cX12_drawn 42 = .ok (.aload_n 0, 1) := by decide +kernel
theorem dX12_drawn_43 : decode cX12_drawn 43 = .ok (.iload_n 1, 1) := by decide +kernel
theorem dX12_drawn_44 : decode cX12_drawn 44 = .ok (.putfield 269, 3) := by decide +kernel
theorem dX12_drawn_47 : decode cX12_drawn 47 = .ok (.iload_n 2, 1) := by decide +kernel
theorem dX12_drawn_48 : decode cX12_drawn 48 = .ok (.bipush 100, 2) := by decide +kernel
theorem dX12_drawn_50 : decode cX12_drawn 50 = .ok (.idiv, 1) := by decide +kernel
theorem dX12_drawn_51 : decode cX12_drawn 51 = .ok (.istore 4, 2) := by decide +kernel
theorem dX12_drawn_53 : decode cX12_drawn 53 = .ok (.iconst 0, 1) := by decide +kernel
theorem dX12_drawn_54 : decode cX12_drawn 54 = .ok (.istore 5, 2) := by decide +kernel
theorem dX12_drawn_56 : decode cX12_drawn 56 = .ok (.iconst 0, 1) := by decide +kernel
theorem dX12_drawn_57 : decode cX12_drawn 57 = .ok (.istore 6, 2) := by decide +kernel
theorem dX12_drawn_59 : decode cX12_drawn 59 = .ok (.iconst 0, 1) := by decide +kernel
theorem dX12_drawn_60 : decode cX12_drawn 60 = .ok (.istore 7, 2) := by decide +kernel
theorem dX12_drawn_62 : decode cX12_drawn 62 = .ok (.iload 7, 2) := by decide +kernel
theorem dX12_drawn_64 : decode cX12_drawn 64 = .ok (.iload_n 2, 1) := by decide +kernel
theorem dX12_drawn_65 : decode cX12_drawn 65 = .ok (.bipush 100, 2) := by decide +kernel
theorem dX12_drawn_67 : decode cX12_drawn 67 = .ok (.irem, 1) := by decide +kernel
theorem dX12_drawn_68 : decode cX12_drawn 68 = .ok (.if_icmp .ge 89, 3) := by decide +kernel
theorem dX12_drawn_71 : decode cX12_drawn 71 = .ok (.iconst 0, 1) := by decide +kernel
theorem dX12_drawn_72 : decode cX12_drawn 72 = .ok (.istore 8, 2) := by decide +kernel
theorem dX12_drawn_74 : decode cX12_drawn 74 = .ok (.iconst 0, 1) := by decide +kernel
theorem dX12_drawn_75 : decode cX12_drawn 75 = .ok (.istore 9, 2) := by decide +kernel
theorem dX12_drawn_77 : decode cX12_drawn 77 = .ok (.iload 9, 2) := by decide +kernel
theorem dX12_drawn_79 : decode cX12_drawn 79 = .ok (.aload_n 0, 1) := by decide +kernel
theorem dX12_drawn_80 : decode cX12_drawn 80 = .ok (.getfield 24, 3) := by decide +kernel
theorem dX12_drawn_83 : decode cX12_drawn 83 = .ok (.iload 4, 2) := by decide +kernel
theorem dX12_drawn_85 : decode cX12_drawn 85 = .ok (.iaload, 1) := by decide +kernel
theorem dX12_drawn_86 : decode cX12_drawn 86 = .ok (.if_icmp .ge 43, 3) := by decide +kernel
theorem dX12_drawn_89 : decode cX12_drawn 89 = .ok (.iload 8, 2) := by decide +kernel
theorem dX12_drawn_91 : decode cX12_drawn 91 = .ok (.aload_n 0, 1) := by decide +kernel
theorem dX12_drawn_92 : decode cX12_drawn 92 = .ok (.aload_n 0, 1) := by decide +kernel
theorem dX12_drawn_93 : decode cX12_drawn 93 = .ok (.iload 4, 2) := by decide +kernel
theorem dX12_drawn_95 : decode cX12_drawn 95 = .ok (.iload 9, 2) := by decide +kernel
theorem dX12_drawn_97 : decode cX12_drawn 97 = .ok (.invokevirtual 136, 3) := by decide +kernel
theorem dX12_drawn_100 : decode cX12_drawn 100 = .ok (.iconst 0, 1) := by decide +kernel
theorem dX12_drawn_101 : decode cX12_drawn 101 = .ok (.invokevirtual 278, 3) := by decide +kernel
theorem dX12_drawn_104 : decode cX12_drawn 104 = .ok (.aload_n 0, 1) := by decide +kernel
theorem dX12_drawn_105 : decode cX12_drawn 105 = .ok (.iload 4, 2) := by decide +kernel
theorem dX12_drawn_107 : decode cX12_drawn 107 = .ok (.iload 9, 2) := by decide +kernel
theorem dX12_drawn_109 : decode cX12_drawn 109 = .ok (.invokevirtual 136, 3) := by decide +kernel
theorem dX12_drawn_112 : decode cX12_drawn 112 = .ok (.if_icmp .ne 7, 3) := by decide +kernel
theorem dX12_drawn_115 : decode cX12_drawn 115 = .ok (.iconst 0, 1) := by decide +kernel
theorem dX12_drawn_116 : decode cX12_drawn 116 = .ok (.goto 4, 3) := by decide +kernel
theorem dX12_drawn_119 : decode cX12_drawn 119 = .ok (.iconst 1, 1) := by decide +kernel
theorem dX12_drawn_120 : decode cX12_drawn 120 = .ok (.iadd, 1) := by decide +kernel
theorem dX12_drawn_121 : decode cX12_drawn 121 = .ok (.istore 8, 2) := by decide +kernel
theorem dX12_drawn_123 : decode cX12_drawn 123 = .ok (.iinc 9 1, 3) := by decide +kernel
theorem dX12_drawn_126 : decode cX12_drawn 126 = .ok (.goto (-49), 3) := by decide +kernel
theorem dX12_drawn_129 : decode cX12_drawn 129 = .ok (.iload 5, 2) := by decide +kernel
theorem dX12_drawn_131 : decode cX12_drawn 131 = .ok (.iload 8, 2) := by decide +kernel
theorem dX12_drawn_133 : decode cX12_drawn 133 = .ok (.ifCond .ne 7, 3) := by decide +kernel
theorem dX12_drawn_136 : decode cX12_drawn 136 = .ok (.iconst 1, 1) := by decide +kernel
theorem dX12_drawn_137 : decode cX12_drawn 137 = .ok (.goto 4, 3) := by decide +kernel
theorem dX12_drawn_140 : decode cX12_drawn 140 = .ok (.iconst 0, 1) := by decide +kernel
theorem dX12_drawn_141 : decode cX12_drawn 141 = .ok (.iadd, 1) := by decide +kernel
theorem dX12_drawn_142 : decode cX12_drawn 142 = .ok (.istore 5, 2) := by decide +kernel
theorem dX12_drawn_144 : decode cX12_drawn 144 = .ok (.iload 6, 2) := by decide +kernel
theorem dX12_drawn_146 : decode cX12_drawn 146 = .ok (.iload 8, 2) := by decide +kernel
theorem dX12_drawn_148 : decode cX12_drawn 148 = .ok (.iadd, 1) := by decide +kernel
theorem dX12_drawn_149 : decode cX12_drawn 149 = .ok (.istore 6, 2) := by decide +kernel
theorem dX12_drawn_151 : decode cX12_drawn 151 = .ok (.iinc 7 1, 3) := by decide +kernel
theorem dX12_drawn_154 : decode cX12_drawn 154 = .ok (.goto (-92), 3) := by decide +kernel
theorem dX12_drawn_157 : decode cX12_drawn 157 = .ok (.iload_n 3, 1) := by decide +kernel
theorem dX12_drawn_158 : decode cX12_drawn 158 = .ok (.ifCond .ne 8, 3) := by decide +kernel
theorem dX12_drawn_161 : decode cX12_drawn 161 = .ok (.iload 5, 2) := by decide +kernel
theorem dX12_drawn_163 : decode cX12_drawn 163 = .ok (.goto 5, 3) := by decide +kernel
theorem dX12_drawn_166 : decode cX12_drawn 166 = .ok (.iload 6, 2) := by decide +kernel
theorem dX12_drawn_168 : decode cX12_drawn 168 = .ok (.ireturn, 1) := by decide +kernel
def f_X12_drawn_b141 (k62 : St → Int32 → Int32 → Int32 → Int32 → Int32 → Int32 → Option (Int32 × St)) (σ : St) (x2 : Int32) (x3 : Int32) (x4 : Int32) (x6 : Int32) (x7 : Int32) (x8 : Int32) (s0 : Int32) (s1 : Int32) : Option (Int32 × St) := bnd (s1 + s0) (fun v32 => bnd (x6 + x8) (fun v33 => bnd (x7 + 1) (fun v34 => k62 σ x2 x3 x4 v32 v33 v34)))
def f_X12_drawn_b77 (k62 : St → Int32 → Int32 → Int32 → Int32 → Int32 → Int32 → Option (Int32 × St)) : Nat → St → Int32 → Int32 → Int32 → Int32 → Int32 → Int32 → Int32 → Int32 → Option (Int32 × St)
  | 0, _, _, _, _, _, _, _, _, _ => none
  | n + 1, σ, x2, x3, x4, x5, x6, x7, x8, x9 => chk (x4 < 0 ∨ 10 ≤ x4.toNatClampNeg) (if σ.2.2.1 607 0 x4.toNatClampNeg ≤ x9 then (if x8 = 0 then (f_X12_drawn_b141 k62 σ x2 x3 x4 x6 x7 x8 (1 : Int32) x5) else (f_X12_drawn_b141 k62 σ x2 x3 x4 x6 x7 x8 (0 : Int32) x5)) else (bnd2 (f_X12_at1 σ x4 x9) (fun r19 σ20 => bnd2 (f_X12_drawnFor σ20 r19 (0 : Int32)) (fun r22 σ23 => bnd2 (f_X12_at1 σ23 x4 x9) (fun r25 σ26 => if r22 = r25 then (bnd (x8 + (0 : Int32)) (fun v30 => bnd (x9 + 1) (fun v31 => f_X12_drawn_b77 k62 n σ26 x2 x3 x4 x5 x6 x7 v30 v31))) else (bnd (x8 + (1 : Int32)) (fun v28 => bnd (x9 + 1) (fun v29 => f_X12_drawn_b77 k62 n σ26 x2 x3 x4 x5 x6 x7 v28 v29))))))))
def f_X12_drawn_b62 : Nat → St → Int32 → Int32 → Int32 → Int32 → Int32 → Int32 → Option (Int32 × St)
  | 0, _, _, _, _, _, _, _ => none
  | n + 1, σ, x2, x3, x4, x5, x6, x7 => if x2 - x2 / (100 : Int32) * (100 : Int32) ≤ x7 then (if x3 = 0 then (some (x5, σ)) else (some (x6, σ))) else (f_X12_drawn_b77 (f_X12_drawn_b62 n) 256 σ x2 x3 x4 x5 x6 x7 (0 : Int32) (0 : Int32))
def f_X12_drawn (σ : St) (p1 : Int32) (p2 : Int32) (p3 : Int32) : Option (Int32 × St) := if p2 < 0 then (some ((-1 : Int32), σ)) else (bnd2 (f_X12_isName σ (p2 / (100 : Int32))) (fun r3 σ4 => if r3 = 0 then (some ((-1 : Int32), σ4)) else (bnd1 (f_X12_within (((p2 - p2 / (100 : Int32) * (100 : Int32)) : Int32).toInt64) (1 : Int64) (30 : Int64)) (fun r7 => if r7 = 0 then (some ((-1 : Int32), σ4)) else (bnd1 (f_X12_within ((p3 : Int32).toInt64) (0 : Int64) (1 : Int64)) (fun r10 => if r10 = 0 then (some ((-1 : Int32), σ4)) else (bnd (p2 / (100 : Int32)) (fun v12 => f_X12_drawn_b62 256 (sI σ4 622 0 p1) p2 p3 v12 (0 : Int32) (0 : Int32) (0 : Int32)))))))))
set_option maxHeartbeats 4000000 in
set_option maxRecDepth 100000 in
theorem w_X12_drawn_b141 {p : Program} {l : Launch} {e : Env} {s : State} {m : MethodId} {args : Array Value} {below : List Frame} {meth : Method} {c : Code} {g : va_G} {ts : ClassId × ClassId × ClassId} {A : Nat → Prop} {Q : State → Prop} {a : Nat → Nat} {r : Int32} {σ' : St} {k62 : St → Int32 → Int32 → Int32 → Int32 → Int32 → Int32 → Option (Int32 × St)} (C : FX p s m args meth c RX12 cX12_drawn 10 g ts A) (hQ : RetI p l e (rk 101 2183) s m args below meth c cX12_drawn g (WM ts a) A r σ' Q) (hk62 : ∀ (σ : St) (x2 : Int32) (x3 : Int32) (x4 : Int32) (x5 : Int32) (x6 : Int32) (x7 : Int32) (H : Heap) (locs : List Loc) (ls : Array Slot), k62 σ x2 x3 x4 x5 x6 x7 = some (r, σ') → va_P g classes (WM ts a σ) H → va_D A (WM ts a σ) → va_S A s.heap H locs → lv_has ls 10 [(0, .ref (a 0)), (2, .int x2), (3, .int x3), (4, .int x4), (5, .int x5), (6, .int x6), (7, .int x7)] → W p l e (rk 101 2183) s m args below meth c H locs 0 0 Q (F0 m 62 ls [])) : ∀ (σ : St) (x2 : Int32) (x3 : Int32) (x4 : Int32) (x6 : Int32) (x7 : Int32) (x8 : Int32) (s0 : Int32) (s1 : Int32) (H : Heap) (locs : List Loc) (ls : Array Slot), f_X12_drawn_b141 k62 σ x2 x3 x4 x6 x7 x8 s0 s1 = some (r, σ') → va_P g classes (WM ts a σ) H → va_D A (WM ts a σ) → va_S A s.heap H locs → lv_has ls 10 [(0, .ref (a 0)), (2, .int x2), (3, .int x3), (4, .int x4), (6, .int x6), (7, .int x7), (8, .int x8)] → W p l e (rk 101 2183) s m args below meth c H locs 0 0 Q (F0 m 141 ls [.int s0, .int s1]) := by
  have hx := C.1
  have hb := C.2.1
  have hown := C.2.2.2.1
  have hts := C.2.2.2.2.1
  intro σ x2 x3 x4 x6 x7 x8 s0 s1 H locs ls hf hP hD hS hl
  rw [f_X12_drawn_b141] at hf
  refine lv_iadd hx hb dX12_drawn_141 ?_
  refine lv_topi (fun v32 ev32 => ?_)
  replace hf := bnd_at ev32 hf
  refine lv_istore (lv' := [(5, .int v32), (0, .ref (a 0)), (2, .int x2), (3, .int x3), (4, .int x4), (6, .int x6), (7, .int x7), (8, .int x8)]) hx hb dX12_drawn_142 hl (by decide) rfl (fun ls hl => ?_)
  refine lv_iload hx hb dX12_drawn_144 (lv_at hl 5 rfl) ?_
  refine lv_iload hx hb dX12_drawn_146 (lv_at hl 7 rfl) ?_
  refine lv_iadd hx hb dX12_drawn_148 ?_
  refine lv_topi (fun v33 ev33 => ?_)
  replace hf := bnd_at ev33 hf
  refine lv_istore (lv' := [(6, .int v33), (5, .int v32), (0, .ref (a 0)), (2, .int x2), (3, .int x3), (4, .int x4), (7, .int x7), (8, .int x8)]) hx hb dX12_drawn_149 hl (by decide) rfl (fun ls hl => ?_)
  obtain ⟨v34, ev34⟩ : ∃ z : Int32, z = x7 + 1 := ⟨_, rfl⟩
  replace hf := bnd_at ev34 hf
  refine lv_iinc (v := v34) (lv' := [(7, .int v34), (6, .int v33), (5, .int v32), (0, .ref (a 0)), (2, .int x2), (3, .int x3), (4, .int x4), (8, .int x8)]) hx hb dX12_drawn_151 hl (k := 6) rfl (by rw [ev34]; rfl) (by decide) rfl (fun ls hl => ?_)
  refine lv_goto (tgt := 62) hx hb dX12_drawn_154 (by decide) ?_
  exact hk62 _ _ _ _ _ _ _ _ _ _ hf hP hD hS (lv_sub hl [3, 4, 5, 6, 2, 1, 0] rfl)
set_option maxHeartbeats 4000000 in
set_option maxRecDepth 100000 in
theorem w_X12_drawn_b77 {p : Program} {l : Launch} {e : Env} {s : State} {m : MethodId} {args : Array Value} {below : List Frame} {meth : Method} {c : Code} {g : va_G} {ts : ClassId × ClassId × ClassId} {A : Nat → Prop} {Q : State → Prop} {a : Nat → Nat} {r : Int32} {σ' : St} {k62 : St → Int32 → Int32 → Int32 → Int32 → Int32 → Int32 → Option (Int32 × St)} (C : FX p s m args meth c RX12 cX12_drawn 10 g ts A) (hQ : RetI p l e (rk 101 2183) s m args below meth c cX12_drawn g (WM ts a) A r σ' Q) (hk62 : ∀ (σ : St) (x2 : Int32) (x3 : Int32) (x4 : Int32) (x5 : Int32) (x6 : Int32) (x7 : Int32) (H : Heap) (locs : List Loc) (ls : Array Slot), k62 σ x2 x3 x4 x5 x6 x7 = some (r, σ') → va_P g classes (WM ts a σ) H → va_D A (WM ts a σ) → va_S A s.heap H locs → lv_has ls 10 [(0, .ref (a 0)), (2, .int x2), (3, .int x3), (4, .int x4), (5, .int x5), (6, .int x6), (7, .int x7)] → W p l e (rk 101 2183) s m args below meth c H locs 0 0 Q (F0 m 62 ls [])) : ∀ (n : Nat) (σ : St) (x2 : Int32) (x3 : Int32) (x4 : Int32) (x5 : Int32) (x6 : Int32) (x7 : Int32) (x8 : Int32) (x9 : Int32) (H : Heap) (locs : List Loc) (ls : Array Slot), f_X12_drawn_b77 k62 n σ x2 x3 x4 x5 x6 x7 x8 x9 = some (r, σ') → va_P g classes (WM ts a σ) H → va_D A (WM ts a σ) → va_S A s.heap H locs → lv_has ls 10 [(0, .ref (a 0)), (2, .int x2), (3, .int x3), (4, .int x4), (5, .int x5), (6, .int x6), (7, .int x7), (8, .int x8), (9, .int x9)] → W p l e (rk 101 2183) s m args below meth c H locs 0 0 Q (F0 m 77 ls []) := by
  have hx := C.1
  have hb := C.2.1
  have hown := C.2.2.2.1
  have hts := C.2.2.2.2.1
  intro n
  induction n with
  | zero =>
    intro σ x2 x3 x4 x5 x6 x7 x8 x9 H locs ls hf
    cases hf
  | succ n ih =>
    intro σ x2 x3 x4 x5 x6 x7 x8 x9 H locs ls hf hP hD hS hl
    rw [f_X12_drawn_b77] at hf
    refine lv_iload hx hb dX12_drawn_77 (lv_at hl 8 rfl) ?_
    refine lv_aload_n hx hb dX12_drawn_79 rfl (lv_at hl 0 rfl) ?_
    refine G_X12_longs C hP q_1079 dX12_drawn_80 ?_
    refine lv_iload hx hb dX12_drawn_83 (lv_at hl 3 rfl) ?_
    obtain ⟨h15, hf⟩ := chk_some hf
    refine AL_X12_longs C hP h15 dX12_drawn_85 ?_
    refine lv_icmp_ge (tgt := 129) hx hb dX12_drawn_86 (by decide) (fun c16 => ?_) (fun c16 => ?_)
    · replace hf := ipos c16 hf
      refine lv_iload hx hb dX12_drawn_129 (lv_at hl 4 rfl) ?_
      refine lv_iload hx hb dX12_drawn_131 (lv_at hl 7 rfl) ?_
      refine lv_if_ne (tgt := 140) hx hb dX12_drawn_133 (by decide) (fun c17 => ?_) (fun c17 => ?_)
      · replace hf := ineg c17 hf
        refine lv_iconst (v := 0) hx hb dX12_drawn_140 (by decide) ?_
        exact w_X12_drawn_b141 C hQ hk62 _ _ _ _ _ _ _ _ _ _ _ _ hf hP hD hS (lv_sub hl [0, 1, 2, 3, 5, 6, 7] rfl)
      · replace hf := ipos c17 hf
        refine lv_iconst (v := 1) hx hb dX12_drawn_136 (by decide) ?_
        refine lv_goto (tgt := 141) hx hb dX12_drawn_137 (by decide) ?_
        exact w_X12_drawn_b141 C hQ hk62 _ _ _ _ _ _ _ _ _ _ _ _ hf hP hD hS (lv_sub hl [0, 1, 2, 3, 5, 6, 7] rfl)
    · replace hf := ineg c16 hf
      refine lv_iload hx hb dX12_drawn_89 (lv_at hl 7 rfl) ?_
      refine lv_aload_n hx hb dX12_drawn_91 rfl (lv_at hl 0 rfl) ?_
      refine lv_aload_n hx hb dX12_drawn_92 rfl (lv_at hl 0 rfl) ?_
      refine lv_iload hx hb dX12_drawn_93 (lv_at hl 3 rfl) ?_
      refine lv_iload hx hb dX12_drawn_95 (lv_at hl 8 rfl) ?_
      obtain ⟨r19, σ20, h18, hf⟩ := bnd2_some hf
      refine vI [.ref (a 0), .int x8] C hP hD hS (c_X12_at1 h18) mv_X12_at1 q_1266 rv_X12 dX12_drawn_97 ⟨Nat.le_of_ble_eq_true rfl, Nat.le_of_ble_eq_true rfl⟩ ⟨Nat.zero_le _, Nat.zero_le _⟩ rfl rfl (Nat.le_of_ble_eq_true rfl) hl.1 (fun H locs hP hD hS => ?_)
      refine lv_iconst (v := 0) hx hb dX12_drawn_100 (by decide) ?_
      obtain ⟨r22, σ23, h21, hf⟩ := bnd2_some hf
      refine vI [.int x8] C hP hD hS (c_X12_drawnFor h21) mv_X12_drawnFor q_1475 rv_X12 dX12_drawn_101 ⟨Nat.le_of_ble_eq_true rfl, Nat.le_of_ble_eq_true rfl⟩ ⟨Nat.zero_le _, Nat.zero_le _⟩ rfl rfl (Nat.le_of_ble_eq_true rfl) hl.1 (fun H locs hP hD hS => ?_)
      refine lv_aload_n hx hb dX12_drawn_104 rfl (lv_at hl 0 rfl) ?_
      refine lv_iload hx hb dX12_drawn_105 (lv_at hl 3 rfl) ?_
      refine lv_iload hx hb dX12_drawn_107 (lv_at hl 8 rfl) ?_
      obtain ⟨r25, σ26, h24, hf⟩ := bnd2_some hf
      refine vI [.int r22, .int x8] C hP hD hS (c_X12_at1 h24) mv_X12_at1 q_1266 rv_X12 dX12_drawn_109 ⟨Nat.le_of_ble_eq_true rfl, Nat.le_of_ble_eq_true rfl⟩ ⟨Nat.zero_le _, Nat.zero_le _⟩ rfl rfl (Nat.le_of_ble_eq_true rfl) hl.1 (fun H locs hP hD hS => ?_)
      refine lv_icmp_ne (tgt := 119) hx hb dX12_drawn_112 (by decide) (fun c27 => ?_) (fun c27 => ?_)
      · replace hf := ineg c27 hf
        refine lv_iconst (v := 1) hx hb dX12_drawn_119 (by decide) ?_
        refine lv_iadd hx hb dX12_drawn_120 ?_
        refine lv_topi (fun v28 ev28 => ?_)
        replace hf := bnd_at ev28 hf
        refine lv_istore (lv' := [(8, .int v28), (0, .ref (a 0)), (2, .int x2), (3, .int x3), (4, .int x4), (5, .int x5), (6, .int x6), (7, .int x7), (9, .int x9)]) hx hb dX12_drawn_121 hl (by decide) rfl (fun ls hl => ?_)
        obtain ⟨v29, ev29⟩ : ∃ z : Int32, z = x9 + 1 := ⟨_, rfl⟩
        replace hf := bnd_at ev29 hf
        refine lv_iinc (v := v29) (lv' := [(9, .int v29), (8, .int v28), (0, .ref (a 0)), (2, .int x2), (3, .int x3), (4, .int x4), (5, .int x5), (6, .int x6), (7, .int x7)]) hx hb dX12_drawn_123 hl (k := 8) rfl (by rw [ev29]; rfl) (by decide) rfl (fun ls hl => ?_)
        refine lv_goto (tgt := 77) hx hb dX12_drawn_126 (by decide) ?_
        exact ih _ _ _ _ _ _ _ _ _ _ _ _ hf hP hD hS (lv_sub hl [2, 3, 4, 5, 6, 7, 8, 1, 0] rfl)
      · replace hf := ipos c27 hf
        refine lv_iconst (v := 0) hx hb dX12_drawn_115 (by decide) ?_
        refine lv_goto (tgt := 120) hx hb dX12_drawn_116 (by decide) ?_
        refine lv_iadd hx hb dX12_drawn_120 ?_
        refine lv_topi (fun v30 ev30 => ?_)
        replace hf := bnd_at ev30 hf
        refine lv_istore (lv' := [(8, .int v30), (0, .ref (a 0)), (2, .int x2), (3, .int x3), (4, .int x4), (5, .int x5), (6, .int x6), (7, .int x7), (9, .int x9)]) hx hb dX12_drawn_121 hl (by decide) rfl (fun ls hl => ?_)
        obtain ⟨v31, ev31⟩ : ∃ z : Int32, z = x9 + 1 := ⟨_, rfl⟩
        replace hf := bnd_at ev31 hf
        refine lv_iinc (v := v31) (lv' := [(9, .int v31), (8, .int v30), (0, .ref (a 0)), (2, .int x2), (3, .int x3), (4, .int x4), (5, .int x5), (6, .int x6), (7, .int x7)]) hx hb dX12_drawn_123 hl (k := 8) rfl (by rw [ev31]; rfl) (by decide) rfl (fun ls hl => ?_)
        refine lv_goto (tgt := 77) hx hb dX12_drawn_126 (by decide) ?_
        exact ih _ _ _ _ _ _ _ _ _ _ _ _ hf hP hD hS (lv_sub hl [2, 3, 4, 5, 6, 7, 8, 1, 0] rfl)
set_option maxHeartbeats 4000000 in
set_option maxRecDepth 100000 in
theorem w_X12_drawn_b62 {p : Program} {l : Launch} {e : Env} {s : State} {m : MethodId} {args : Array Value} {below : List Frame} {meth : Method} {c : Code} {g : va_G} {ts : ClassId × ClassId × ClassId} {A : Nat → Prop} {Q : State → Prop} {a : Nat → Nat} {r : Int32} {σ' : St} (C : FX p s m args meth c RX12 cX12_drawn 10 g ts A) (hQ : RetI p l e (rk 101 2183) s m args below meth c cX12_drawn g (WM ts a) A r σ' Q) : ∀ (n : Nat) (σ : St) (x2 : Int32) (x3 : Int32) (x4 : Int32) (x5 : Int32) (x6 : Int32) (x7 : Int32) (H : Heap) (locs : List Loc) (ls : Array Slot), f_X12_drawn_b62 n σ x2 x3 x4 x5 x6 x7 = some (r, σ') → va_P g classes (WM ts a σ) H → va_D A (WM ts a σ) → va_S A s.heap H locs → lv_has ls 10 [(0, .ref (a 0)), (2, .int x2), (3, .int x3), (4, .int x4), (5, .int x5), (6, .int x6), (7, .int x7)] → W p l e (rk 101 2183) s m args below meth c H locs 0 0 Q (F0 m 62 ls []) := by
  have hx := C.1
  have hb := C.2.1
  have hown := C.2.2.2.1
  have hts := C.2.2.2.2.1
  intro n
  induction n with
  | zero =>
    intro σ x2 x3 x4 x5 x6 x7 H locs ls hf
    cases hf
  | succ n ih =>
    intro σ x2 x3 x4 x5 x6 x7 H locs ls hf hP hD hS hl
    rw [f_X12_drawn_b62] at hf
    refine lv_iload hx hb dX12_drawn_62 (lv_at hl 6 rfl) ?_
    refine lv_iload_n hx hb dX12_drawn_64 rfl (lv_at hl 1 rfl) ?_
    refine lv_bipush (v := 100) hx hb dX12_drawn_65 (by decide) ?_
    refine lv_irem hx hb dX12_drawn_67 (by decide) ?_
    refine lv_icmp_ge (tgt := 157) hx hb dX12_drawn_68 (by decide) (fun c13 => ?_) (fun c13 => ?_)
    · replace hf := ipos c13 hf
      refine lv_iload_n hx hb dX12_drawn_157 rfl (lv_at hl 2 rfl) ?_
      refine lv_if_ne (tgt := 166) hx hb dX12_drawn_158 (by decide) (fun c14 => ?_) (fun c14 => ?_)
      · replace hf := ineg c14 hf
        refine lv_iload hx hb dX12_drawn_166 (lv_at hl 5 rfl) ?_
        exact retI hQ hf dX12_drawn_168 hP hD hS
      · replace hf := ipos c14 hf
        refine lv_iload hx hb dX12_drawn_161 (lv_at hl 4 rfl) ?_
        refine lv_goto (tgt := 168) hx hb dX12_drawn_163 (by decide) ?_
        exact retI hQ hf dX12_drawn_168 hP hD hS
    · replace hf := ineg c13 hf
      refine lv_iconst (v := 0) hx hb dX12_drawn_71 (by decide) ?_
      refine lv_istore (lv' := [(8, .int (0 : Int32)), (0, .ref (a 0)), (2, .int x2), (3, .int x3), (4, .int x4), (5, .int x5), (6, .int x6), (7, .int x7)]) hx hb dX12_drawn_72 hl (by decide) rfl (fun ls hl => ?_)
      refine lv_iconst (v := 0) hx hb dX12_drawn_74 (by decide) ?_
      refine lv_istore (lv' := [(9, .int (0 : Int32)), (8, .int (0 : Int32)), (0, .ref (a 0)), (2, .int x2), (3, .int x3), (4, .int x4), (5, .int x5), (6, .int x6), (7, .int x7)]) hx hb dX12_drawn_75 hl (by decide) rfl (fun ls hl => ?_)
      exact w_X12_drawn_b77 C hQ ih 256 _ _ _ _ _ _ _ _ _ _ _ _ hf hP hD hS (lv_sub hl [2, 3, 4, 5, 6, 7, 8, 1, 0] rfl)
set_option maxHeartbeats 4000000 in
set_option maxRecDepth 100000 in
theorem c_X12_drawn {l : Launch} {g : va_G} {ts : ClassId × ClassId × ClassId} {a : Nat → Nat} {σ : St} {p1 : Int32} {p2 : Int32} {p3 : Int32} {r : Int32} {σ' : St} (hf : f_X12_drawn σ p1 p2 p3 = some (r, σ')) : ConI l g ts (WM ts a) yX12_drawn cX12_drawn 10 (some .int) (rk 101 2183) σ [.ref (a 0), .int p1, .int p2, .int p3] r σ' := by
  refine ConI_mk .int rfl rfl rfl rfl (by decide) (Nat.le_of_ble_eq_true rfl) ?_
  intro p e s m below meth c A Q ls C hQ hP hD hS hl
  have C : FX p s m _ meth c RX12 cX12_drawn 10 g ts A := C
  have hx := C.1
  have hb := C.2.1
  have hown := C.2.2.2.1
  have hts := C.2.2.2.2.1
  have hl : lv_has ls 10 [(0, .ref (a 0)), (1, .int p1), (2, .int p2), (3, .int p3)] := hl
  rw [f_X12_drawn] at hf
  refine lv_iload_n hx hb dX12_drawn_0 rfl (lv_at hl 2 rfl) ?_
  refine lv_if_lt (tgt := 40) hx hb dX12_drawn_1 (by decide) (fun c1 => ?_) (fun c1 => ?_)
  · replace hf := ipos c1 hf
    refine lv_iconst (v := -1) hx hb dX12_drawn_40 (by decide) ?_
    exact retI hQ hf dX12_drawn_41 hP hD hS
  · replace hf := ineg c1 hf
    refine lv_aload_n hx hb dX12_drawn_4 rfl (lv_at hl 0 rfl) ?_
    refine lv_iload_n hx hb dX12_drawn_5 rfl (lv_at hl 2 rfl) ?_
    refine lv_bipush (v := 100) hx hb dX12_drawn_6 (by decide) ?_
    refine lv_idiv hx hb dX12_drawn_8 (by decide) ?_
    obtain ⟨r3, σ4, h2, hf⟩ := bnd2_some hf
    refine vI [] C hP hD hS (c_X12_isName h2) mv_X12_isName q_1242 rv_X12 dX12_drawn_9 ⟨Nat.le_of_ble_eq_true rfl, Nat.le_of_ble_eq_true rfl⟩ ⟨Nat.zero_le _, Nat.zero_le _⟩ rfl rfl (Nat.le_of_ble_eq_true rfl) hl.1 (fun H locs hP hD hS => ?_)
    refine lv_if_eq (tgt := 40) hx hb dX12_drawn_12 (by decide) (fun c5 => ?_) (fun c5 => ?_)
    · replace hf := ipos c5 hf
      refine lv_iconst (v := -1) hx hb dX12_drawn_40 (by decide) ?_
      exact retI hQ hf dX12_drawn_41 hP hD hS
    · replace hf := ineg c5 hf
      refine lv_iload_n hx hb dX12_drawn_15 rfl (lv_at hl 2 rfl) ?_
      refine lv_bipush (v := 100) hx hb dX12_drawn_16 (by decide) ?_
      refine lv_irem hx hb dX12_drawn_18 (by decide) ?_
      refine lv_i2l (v := ((p2 - p2 / (100 : Int32) * (100 : Int32)) : Int32).toInt64) hx hb dX12_drawn_19 rfl ?_
      refine lv_lconst (v := 1) hx hb dX12_drawn_20 (by decide) ?_
      refine lv_ldc2 hx hb hown (hts _ q_1474) dX12_drawn_21 ?_
      obtain ⟨r7, h6, hf⟩ := bnd1_some hf
      refine tI [] C hP hD hS (c_X12_within h6) ms_X12_within q_1218 dX12_drawn_24 ⟨Nat.le_of_ble_eq_true rfl, Nat.le_of_ble_eq_true rfl⟩ ⟨Nat.zero_le _, Nat.zero_le _⟩ rfl rfl (Nat.le_of_ble_eq_true rfl) hl.1 (fun H locs hP hD hS => ?_)
      refine lv_if_eq (tgt := 40) hx hb dX12_drawn_27 (by decide) (fun c8 => ?_) (fun c8 => ?_)
      · replace hf := ipos c8 hf
        refine lv_iconst (v := -1) hx hb dX12_drawn_40 (by decide) ?_
        exact retI hQ hf dX12_drawn_41 hP hD hS
      · replace hf := ineg c8 hf
        refine lv_iload_n hx hb dX12_drawn_30 rfl (lv_at hl 3 rfl) ?_
        refine lv_i2l (v := (p3 : Int32).toInt64) hx hb dX12_drawn_31 rfl ?_
        refine lv_lconst (v := 0) hx hb dX12_drawn_32 (by decide) ?_
        refine lv_lconst (v := 1) hx hb dX12_drawn_33 (by decide) ?_
        obtain ⟨r10, h9, hf⟩ := bnd1_some hf
        refine tI [] C hP hD hS (c_X12_within h9) ms_X12_within q_1218 dX12_drawn_34 ⟨Nat.le_of_ble_eq_true rfl, Nat.le_of_ble_eq_true rfl⟩ ⟨Nat.zero_le _, Nat.zero_le _⟩ rfl rfl (Nat.le_of_ble_eq_true rfl) hl.1 (fun H locs hP hD hS => ?_)
        refine lv_if_ne (tgt := 42) hx hb dX12_drawn_37 (by decide) (fun c11 => ?_) (fun c11 => ?_)
        · replace hf := ineg c11 hf
          refine lv_aload_n hx hb dX12_drawn_42 rfl (lv_at hl 0 rfl) ?_
          refine lv_iload_n hx hb dX12_drawn_43 rfl (lv_at hl 1 rfl) ?_
          refine S_X12_z C hP hD hS q_1094 dX12_drawn_44 (fun H locs hP hD hS => ?_)
          refine lv_iload_n hx hb dX12_drawn_47 rfl (lv_at hl 2 rfl) ?_
          refine lv_bipush (v := 100) hx hb dX12_drawn_48 (by decide) ?_
          refine lv_idiv hx hb dX12_drawn_50 (by decide) ?_
          refine lv_topi (fun v12 ev12 => ?_)
          replace hf := bnd_at ev12 hf
          refine lv_istore (lv' := [(4, .int v12), (0, .ref (a 0)), (1, .int p1), (2, .int p2), (3, .int p3)]) hx hb dX12_drawn_51 hl (by decide) rfl (fun ls hl => ?_)
          refine lv_iconst (v := 0) hx hb dX12_drawn_53 (by decide) ?_
          refine lv_istore (lv' := [(5, .int (0 : Int32)), (4, .int v12), (0, .ref (a 0)), (1, .int p1), (2, .int p2), (3, .int p3)]) hx hb dX12_drawn_54 hl (by decide) rfl (fun ls hl => ?_)
          refine lv_iconst (v := 0) hx hb dX12_drawn_56 (by decide) ?_
          refine lv_istore (lv' := [(6, .int (0 : Int32)), (5, .int (0 : Int32)), (4, .int v12), (0, .ref (a 0)), (1, .int p1), (2, .int p2), (3, .int p3)]) hx hb dX12_drawn_57 hl (by decide) rfl (fun ls hl => ?_)
          refine lv_iconst (v := 0) hx hb dX12_drawn_59 (by decide) ?_
          refine lv_istore (lv' := [(7, .int (0 : Int32)), (6, .int (0 : Int32)), (5, .int (0 : Int32)), (4, .int v12), (0, .ref (a 0)), (1, .int p1), (2, .int p2), (3, .int p3)]) hx hb dX12_drawn_60 hl (by decide) rfl (fun ls hl => ?_)
          exact w_X12_drawn_b62 C hQ 256 _ _ _ _ _ _ _ _ _ _ hf hP hD hS (lv_sub hl [4, 6, 7, 3, 2, 1, 0] rfl)
        · replace hf := ipos c11 hf
          refine lv_iconst (v := -1) hx hb dX12_drawn_40 (by decide) ?_
          exact retI hQ hf dX12_drawn_41 hP hD hS
theorem dX12_call_0 : decode cX12_call 0 = .ok (.aload_n 0, 1) := by decide +kernel
theorem dX12_call_1 : decode cX12_call 1 = .ok (.iload_n 1, 1) := by decide +kernel
theorem dX12_call_2 : decode cX12_call 2 = .ok (.invokevirtual 116, 3) := by decide +kernel
theorem dX12_call_5 : decode cX12_call 5 = .ok (.ifCond .ne 5, 3) := by decide +kernel
theorem dX12_call_8 : decode cX12_call 8 = .ok (.iconst (-1), 1) := by decide +kernel
theorem dX12_call_9 : decode cX12_call 9 = .ok (.ireturn, 1) := by decide +kernel
theorem dX12_call_10 : decode cX12_call 10 = .ok (.aload_n 0, 1) := by decide +kernel
theorem dX12_call_11 : decode cX12_call 11 = .ok (.getfield 80, 3) := by decide +kernel
theorem dX12_call_14 : decode cX12_call 14 = .ok (.ifCond .lt 6, 3) := by decide +kernel
theorem dX12_call_17 : decode cX12_call 17 = .ok (.bipush (-5), 2) := by decide +kernel
theorem dX12_call_19 : decode cX12_call 19 = .ok (.ireturn, 1) := by decide +kernel
theorem dX12_call_20 : decode cX12_call 20 = .ok (.aload_n 0, 1) := by decide +kernel
theorem dX12_call_21 : decode cX12_call 21 = .ok (.iload_n 1, 1) := by decide +kernel
theorem dX12_call_22 : decode cX12_call 22 = .ok (.putfield 80, 3) := by decide +kernel
theorem dX12_call_25 : decode cX12_call 25 = .ok (.aload_n 0, 1) := by decide +kernel
theorem dX12_call_26 : decode cX12_call 26 = .ok (.iload_n 2, 1) := by decide +kernel
theorem dX12_call_27 : decode cX12_call 27 = .ok (.putfield 281, 3) := by decide +kernel
theorem dX12_call_30 : decode cX12_call 30 = .ok (.aload_n 0, 1) := by decide +kernel
theorem dX12_call_31 : decode cX12_call 31 = .ok (.iconst 0, 1) := by decide +kernel
theorem dX12_call_32 : decode cX12_call 32 = .ok (.putfield 284, 3) := by decide +kernel
theorem dX12_call_35 : decode cX12_call 35 = .ok (.iconst 0, 1) := by decide +kernel
theorem dX12_call_36 : decode cX12_call 36 = .ok (.istore_n 3, 1) := by decide +kernel
theorem dX12_call_37 : decode cX12_call 37 = .ok (.iload_n 3, 1) := by decide +kernel
theorem dX12_call_38 : decode cX12_call 38 = .ok (.bipush 6, 2) := by decide +kernel
theorem dX12_call_40 : decode cX12_call 40 = .ok (.if_icmp .ge 24, 3) := by decide +kernel
theorem dX12_call_43 : decode cX12_call 43 = .ok (.aload_n 0, 1) := by decide +kernel
theorem dX12_call_44 : decode cX12_call 44 = .ok (.getfield 49, 3) := by decide +kernel
theorem dX12_call_47 : decode cX12_call 47 = .ok (.iload_n 3, 1) := by decide +kernel
theorem dX12_call_48 : decode cX12_call 48 = .ok (.iconst 0, 1) := by decide +kernel
theorem dX12_call_49 : decode cX12_call 49 = .ok (.iastore, 1) := by decide +kernel
theorem dX12_call_50 : decode cX12_call 50 = .ok (.aload_n 0, 1) := by decide +kernel
theorem dX12_call_51 : decode cX12_call 51 = .ok (.getfield 52, 3) := by decide +kernel
theorem dX12_call_54 : decode cX12_call 54 = .ok (.iload_n 3, 1) := by decide +kernel
theorem dX12_call_55 : decode cX12_call 55 = .ok (.bipush (-2), 2) := by decide +kernel
theorem dX12_call_57 : decode cX12_call 57 = .ok (.iastore, 1) := by decide +kernel
theorem dX12_call_58 : decode cX12_call 58 = .ok (.iinc 3 1, 3) := by decide +kernel
theorem dX12_call_61 : decode cX12_call 61 = .ok (.goto (-24), 3) := by decide +kernel
theorem dX12_call_64 : decode cX12_call 64 = .ok (.aload_n 0, 1) := by decide +kernel
theorem dX12_call_65 : decode cX12_call 65 = .ok (.getfield 24, 3) := by decide +kernel
theorem dX12_call_68 : decode cX12_call 68 = .ok (.iload_n 1, 1) := by decide +kernel
theorem dX12_call_69 : decode cX12_call 69 = .ok (.iaload, 1) := by decide +kernel
theorem dX12_call_70 : decode cX12_call 70 = .ok (.ireturn, 1) := by decide +kernel
def f_X12_call_b37 : Nat → St → Int32 → Int32 → Option (Int32 × St)
  | 0, _, _, _ => none
  | n + 1, σ, x1, x3 => if (6 : Int32) ≤ x3 then (chk (x1 < 0 ∨ 10 ≤ x1.toNatClampNeg) (some (σ.2.2.1 607 0 x1.toNatClampNeg, σ))) else (chk (x3 < 0 ∨ 6 ≤ x3.toNatClampNeg) (bnd (sA σ 626 0 (upd (σ.2.2.1 626 0) x3.toNatClampNeg (0 : Int32))) (fun σ10 => chk (x3 < 0 ∨ 6 ≤ x3.toNatClampNeg) (bnd (sA σ10 627 0 (upd (σ10.2.2.1 627 0) x3.toNatClampNeg (-2 : Int32))) (fun σ12 => bnd (x3 + 1) (fun v13 => f_X12_call_b37 n σ12 x1 v13))))))
def f_X12_call (σ : St) (p1 : Int32) (p2 : Int32) : Option (Int32 × St) := bnd2 (f_X12_isName σ p1) (fun r2 σ3 => if r2 = 0 then (some ((-1 : Int32), σ3)) else (if σ3.1 623 0 < 0 then (bnd (sI (sI (sI σ3 623 0 p1) 624 0 p2) 625 0 (0 : Int32)) (fun σ6 => f_X12_call_b37 256 σ6 p1 (0 : Int32))) else (some ((-5 : Int32), σ3))))
set_option maxHeartbeats 4000000 in
set_option maxRecDepth 100000 in
theorem w_X12_call_b37 {p : Program} {l : Launch} {e : Env} {s : State} {m : MethodId} {args : Array Value} {below : List Frame} {meth : Method} {c : Code} {g : va_G} {ts : ClassId × ClassId × ClassId} {A : Nat → Prop} {Q : State → Prop} {a : Nat → Nat} {r : Int32} {σ' : St} (C : FX p s m args meth c RX12 cX12_call 4 g ts A) (hQ : RetI p l e (rk 2 46) s m args below meth c cX12_call g (WM ts a) A r σ' Q) : ∀ (n : Nat) (σ : St) (x1 : Int32) (x3 : Int32) (H : Heap) (locs : List Loc) (ls : Array Slot), f_X12_call_b37 n σ x1 x3 = some (r, σ') → va_P g classes (WM ts a σ) H → va_D A (WM ts a σ) → va_S A s.heap H locs → lv_has ls 4 [(0, .ref (a 0)), (1, .int x1), (3, .int x3)] → W p l e (rk 2 46) s m args below meth c H locs 0 0 Q (F0 m 37 ls []) := by
  have hx := C.1
  have hb := C.2.1
  have hown := C.2.2.2.1
  have hts := C.2.2.2.2.1
  intro n
  induction n with
  | zero =>
    intro σ x1 x3 H locs ls hf
    cases hf
  | succ n ih =>
    intro σ x1 x3 H locs ls hf hP hD hS hl
    rw [f_X12_call_b37] at hf
    refine lv_iload_n hx hb dX12_call_37 rfl (lv_at hl 2 rfl) ?_
    refine lv_bipush (v := 6) hx hb dX12_call_38 (by decide) ?_
    refine lv_icmp_ge (tgt := 64) hx hb dX12_call_40 (by decide) (fun c7 => ?_) (fun c7 => ?_)
    · replace hf := ipos c7 hf
      refine lv_aload_n hx hb dX12_call_64 rfl (lv_at hl 0 rfl) ?_
      refine G_X12_longs C hP q_1079 dX12_call_65 ?_
      refine lv_iload_n hx hb dX12_call_68 rfl (lv_at hl 1 rfl) ?_
      obtain ⟨h8, hf⟩ := chk_some hf
      refine AL_X12_longs C hP h8 dX12_call_69 ?_
      exact retI hQ hf dX12_call_70 hP hD hS
    · replace hf := ineg c7 hf
      refine lv_aload_n hx hb dX12_call_43 rfl (lv_at hl 0 rfl) ?_
      refine G_X12_saidMany C hP q_1098 dX12_call_44 ?_
      refine lv_iload_n hx hb dX12_call_47 rfl (lv_at hl 2 rfl) ?_
      refine lv_iconst (v := 0) hx hb dX12_call_48 (by decide) ?_
      obtain ⟨h9, hf⟩ := chk_some hf
      refine AS_X12_saidMany C hP hD hS h9 dX12_call_49 (fun H locs hP hD hS => ?_)
      refine nameS hP hD hf (fun σ10 hP hD hf => ?_)
      refine lv_aload_n hx hb dX12_call_50 rfl (lv_at hl 0 rfl) ?_
      refine G_X12_notedAs C hP q_1099 dX12_call_51 ?_
      refine lv_iload_n hx hb dX12_call_54 rfl (lv_at hl 2 rfl) ?_
      refine lv_bipush (v := -2) hx hb dX12_call_55 (by decide) ?_
      obtain ⟨h11, hf⟩ := chk_some hf
      refine AS_X12_notedAs C hP hD hS h11 dX12_call_57 (fun H locs hP hD hS => ?_)
      refine nameS hP hD hf (fun σ12 hP hD hf => ?_)
      obtain ⟨v13, ev13⟩ : ∃ z : Int32, z = x3 + 1 := ⟨_, rfl⟩
      replace hf := bnd_at ev13 hf
      refine lv_iinc (v := v13) (lv' := [(3, .int v13), (0, .ref (a 0)), (1, .int x1)]) hx hb dX12_call_58 hl (k := 2) rfl (by rw [ev13]; rfl) (by decide) rfl (fun ls hl => ?_)
      refine lv_goto (tgt := 37) hx hb dX12_call_61 (by decide) ?_
      exact ih _ _ _ _ _ _ hf hP hD hS (lv_sub hl [1, 2, 0] rfl)
set_option maxHeartbeats 4000000 in
set_option maxRecDepth 100000 in
theorem c_X12_call {l : Launch} {g : va_G} {ts : ClassId × ClassId × ClassId} {a : Nat → Nat} {σ : St} {p1 : Int32} {p2 : Int32} {r : Int32} {σ' : St} (hf : f_X12_call σ p1 p2 = some (r, σ')) : ConI l g ts (WM ts a) yX12_call cX12_call 4 (some .int) (rk 2 46) σ [.ref (a 0), .int p1, .int p2] r σ' := by
  refine ConI_mk .int rfl rfl rfl rfl (by decide) (Nat.le_of_ble_eq_true rfl) ?_
  intro p e s m below meth c A Q ls C hQ hP hD hS hl
  have C : FX p s m _ meth c RX12 cX12_call 4 g ts A := C
  have hx := C.1
  have hb := C.2.1
  have hown := C.2.2.2.1
  have hts := C.2.2.2.2.1
  have hl : lv_has ls 4 [(0, .ref (a 0)), (1, .int p1), (2, .int p2)] := hl
  rw [f_X12_call] at hf
  refine lv_aload_n hx hb dX12_call_0 rfl (lv_at hl 0 rfl) ?_
  refine lv_iload_n hx hb dX12_call_1 rfl (lv_at hl 1 rfl) ?_
  obtain ⟨r2, σ3, h1, hf⟩ := bnd2_some hf
  refine vI [] C hP hD hS (c_X12_isName h1) mv_X12_isName q_1242 rv_X12 dX12_call_2 ⟨Nat.le_of_ble_eq_true rfl, Nat.le_of_ble_eq_true rfl⟩ ⟨Nat.zero_le _, Nat.zero_le _⟩ rfl rfl (Nat.le_of_ble_eq_true rfl) hl.1 (fun H locs hP hD hS => ?_)
  refine lv_if_ne (tgt := 10) hx hb dX12_call_5 (by decide) (fun c4 => ?_) (fun c4 => ?_)
  · replace hf := ineg c4 hf
    refine lv_aload_n hx hb dX12_call_10 rfl (lv_at hl 0 rfl) ?_
    refine G_X12_onName C hP q_1095 dX12_call_11 ?_
    refine lv_if_lt (tgt := 20) hx hb dX12_call_14 (by decide) (fun c5 => ?_) (fun c5 => ?_)
    · replace hf := ipos c5 hf
      refine lv_aload_n hx hb dX12_call_20 rfl (lv_at hl 0 rfl) ?_
      refine lv_iload_n hx hb dX12_call_21 rfl (lv_at hl 1 rfl) ?_
      refine S_X12_onName C hP hD hS q_1095 dX12_call_22 (fun H locs hP hD hS => ?_)
      refine lv_aload_n hx hb dX12_call_25 rfl (lv_at hl 0 rfl) ?_
      refine lv_iload_n hx hb dX12_call_26 rfl (lv_at hl 2 rfl) ?_
      refine S_X12_onDraws C hP hD hS q_1096 dX12_call_27 (fun H locs hP hD hS => ?_)
      refine lv_aload_n hx hb dX12_call_30 rfl (lv_at hl 0 rfl) ?_
      refine lv_iconst (v := 0) hx hb dX12_call_31 (by decide) ?_
      refine S_X12_onSaid C hP hD hS q_1097 dX12_call_32 (fun H locs hP hD hS => ?_)
      refine nameS hP hD hf (fun σ6 hP hD hf => ?_)
      refine lv_iconst (v := 0) hx hb dX12_call_35 (by decide) ?_
      refine lv_istore_n (lv' := [(3, .int (0 : Int32)), (0, .ref (a 0)), (1, .int p1), (2, .int p2)]) hx hb dX12_call_36 rfl hl (by decide) rfl (fun ls hl => ?_)
      exact w_X12_call_b37 C hQ 256 _ _ _ _ _ _ hf hP hD hS (lv_sub hl [1, 2, 0] rfl)
    · replace hf := ineg c5 hf
      refine lv_bipush (v := -5) hx hb dX12_call_17 (by decide) ?_
      exact retI hQ hf dX12_call_19 hP hD hS
  · replace hf := ipos c4 hf
    refine lv_iconst (v := -1) hx hb dX12_call_8 (by decide) ?_
    exact retI hQ hf dX12_call_9 hP hD hS
theorem dX12_say_0 : decode cX12_say 0 = .ok (.iload_n 1, 1) := by decide +kernel
theorem dX12_say_1 : decode cX12_say 1 = .ok (.i2l, 1) := by decide +kernel
theorem dX12_say_2 : decode cX12_say 2 = .ok (.lconst 0, 1) := by decide +kernel
theorem dX12_say_3 : decode cX12_say 3 = .ok (.ldc2_w 287, 3) := by decide +kernel
theorem dX12_say_6 : decode cX12_say 6 = .ok (.invokestatic 91, 3) := by decide +kernel
theorem dX12_say_9 : decode cX12_say 9 = .ok (.ifCond .eq 13, 3) := by decide +kernel
theorem dX12_say_12 : decode cX12_say 12 = .ok (.iload_n 2, 1) := by decide +kernel
theorem dX12_say_13 : decode cX12_say 13 = .ok (.i2l, 1) := by decide +kernel
theorem dX12_say_14 : decode cX12_say 14 = .ok (.lconst 0, 1) := by decide +kernel
theorem dX12_say_15 : decode cX12_say 15 = .ok (.lconst 1, 1) := by decide +kernel
theorem dX12_say_16 : decode cX12_say 16 = .ok (.invokestatic 91, 3) := by decide +kernel
theorem dX12_say_19 : decode cX12_say 19 = .ok (.ifCond .ne 5, 3) := by decide +kernel
theorem dX12_say_22 : decode cX12_say 22 = .ok (.iconst (-1), 1) := by decide +kernel
theorem dX12_say_23 : decode cX12_say 23 = .ok (.ireturn, 1) := by decide +kernel
theorem dX12_say_24 : decode cX12_say 24 = .ok (.aload_n 0, 1) := by decide +kernel
theorem dX12_say_25 : decode cX12_say 25 = .ok (.getfield 80, 3) := by decide +kernel
theorem dX12_say_28 : decode cX12_say 28 = .ok (.ifCond .ge 6, 3) := by decide +kernel
theorem dX12_say_31 : decode cX12_say 31 = .ok (.bipush (-5), 2) := by decide +kernel
theorem dX12_say_33 : decode cX12_say 33 = .ok (.ireturn, 1) := by decide +kernel
theorem dX12_say_34 : decode cX12_say 34 = .ok (.iload_n 1, 1) := by decide +kernel
theorem dX12_say_35 : decode cX12_say 35 = .ok (.aload_n 0, 1) := by decide +kernel
theorem dX12_say_36 : decode cX12_say 36 = .ok (.getfield 24, 3) := by decide +kernel
theorem dX12_say_39 : decode cX12_say 39 = .ok (.aload_n 0, 1) := by decide +kernel
theorem dX12_say_40 : decode cX12_say 40 = .ok (.getfield 80, 3) := by decide +kernel
theorem dX12_say_43 : decode cX12_say 43 = .ok (.iaload, 1) := by decide +kernel
theorem dX12_say_44 : decode cX12_say 44 = .ok (.if_icmp .lt 5, 3) := by decide +kernel
theorem dX12_say_47 : decode cX12_say 47 = .ok (.iconst (-1), 1) := by decide +kernel
theorem dX12_say_48 : decode cX12_say 48 = .ok (.ireturn, 1) := by decide +kernel
theorem dX12_say_49 : decode cX12_say 49 = .ok (.aload_n 0, 1) := by decide +kernel
theorem dX12_say_50 : decode cX12_say 50 = .ok (.aload_n 0, 1) := by decide +kernel
theorem dX12_say_51 : decode cX12_say 51 = .ok (.getfield 80, 3) := by decide +kernel
theorem dX12_say_54 : decode cX12_say 54 = .ok (.iload_n 1, 1) := by decide +kernel
theorem dX12_say_55 : decode cX12_say 55 = .ok (.invokevirtual 136, 3) := by decide +kernel
theorem dX12_say_58 : decode cX12_say 58 = .ok (.istore_n 3, 1) := by decide +kernel
theorem dX12_say_59 : decode cX12_say 59 = .ok (.aload_n 0, 1) := by decide +kernel
theorem dX12_say_60 : decode cX12_say 60 = .ok (.aload_n 0, 1) := by decide +kernel
theorem dX12_say_61 : decode cX12_say 61 = .ok (.getfield 281, 3) := by decide +kernel
theorem dX12_say_64 : decode cX12_say 64 = .ok (.putfield 269, 3) := by decide +kernel
theorem dX12_say_67 : decode cX12_say 67 = .ok (.iload_n 2, 1) := by decide +kernel
theorem dX12_say_68 : decode cX12_say 68 = .ok (.iconst 1, 1) := by decide +kernel
theorem dX12_say_69 : decode cX12_say 69 = .ok (.if_icmp .ne 26, 3) := by decide +kernel
theorem dX12_say_72 : decode cX12_say 72 = .ok (.aload_n 0, 1) := by decide +kernel
theorem dX12_say_73 : decode cX12_say 73 = .ok (.bipush 12, 2) := by decide +kernel
theorem dX12_say_75 : decode cX12_say 75 = .ok (.invokevirtual 273, 3) := by decide +kernel
theorem dX12_say_78 : decode cX12_say 78 = .ok (.aload_n 0, 1) := by decide +kernel
theorem dX12_say_79 : decode cX12_say 79 = .ok (.getfield 11, 3) := by decide +kernel
theorem dX12_say_82 : decode cX12_say 82 = .ok (.sipush 166, 3) := by decide +kernel
theorem dX12_say_85 : decode cX12_say 85 = .ok (.iload_n 3, 1) := by decide +kernel
theorem dX12_say_86 : decode cX12_say 86 = .ok (.iadd, 1) := by decide +kernel
theorem dX12_say_87 : decode cX12_say 87 = .ok (.iaload, 1) := by decide +kernel
theorem dX12_say_88 : decode cX12_say 88 = .ok (.if_icmp .ge 7, 3) := by decide +kernel
theorem dX12_say_91 : decode cX12_say 91 = .ok (.iconst 1, 1) := by decide +kernel
theorem dX12_say_92 : decode cX12_say 92 = .ok (.goto 4, 3) := by decide +kernel
theorem dX12_say_95 : decode cX12_say 95 = .ok (.iconst 0, 1) := by decide +kernel
theorem dX12_say_96 : decode cX12_say 96 = .ok (.istore 4, 2) := by decide +kernel
theorem dX12_say_98 : decode cX12_say 98 = .ok (.iload 4, 2) := by decide +kernel
theorem dX12_say_100 : decode cX12_say 100 = .ok (.ifCond .eq 7, 3) := by decide +kernel
theorem dX12_say_103 : decode cX12_say 103 = .ok (.iload_n 3, 1) := by decide +kernel
theorem dX12_say_104 : decode cX12_say 104 = .ok (.goto 30, 3) := by decide +kernel
theorem dX12_say_107 : decode cX12_say 107 = .ok (.aload_n 0, 1) := by decide +kernel
theorem dX12_say_108 : decode cX12_say 108 = .ok (.iload_n 3, 1) := by decide +kernel
theorem dX12_say_109 : decode cX12_say 109 = .ok (.aload_n 0, 1) := by decide +kernel
theorem dX12_say_110 : decode cX12_say 110 = .ok (.getfield 49, 3) := by decide +kernel
theorem dX12_say_113 : decode cX12_say 113 = .ok (.iload_n 1, 1) := by decide +kernel
theorem dX12_say_114 : decode cX12_say 114 = .ok (.iaload, 1) := by decide +kernel
theorem dX12_say_115 : decode cX12_say 115 = .ok (.bipush 9, 2) := by decide +kernel
theorem dX12_say_117 : decode cX12_say 117 = .ok (.if_icmp .le 8, 3) := by decide +kernel
theorem dX12_say_120 : decode cX12_say 120 = .ok (.bipush 9, 2) := by decide +kernel
theorem dX12_say_122 : decode cX12_say 122 = .ok (.goto 9, 3) := by decide +kernel
theorem dX12_say_125 : decode cX12_say 125 = .ok (.aload_n 0, 1) := by decide +kernel
theorem dX12_say_126 : decode cX12_say 126 = .ok (.getfield 49, 3) := by decide +kernel
theorem dX12_say_129 : decode cX12_say 129 = .ok (.iload_n 1, 1) := by decide +kernel
theorem dX12_say_130 : decode cX12_say 130 = .ok (.iaload, 1) := by decide +kernel
theorem dX12_say_131 : decode cX12_say 131 = .ok (.invokevirtual 278, 3) := by decide +kernel
theorem dX12_say_134 : decode cX12_say 134 = .ok (.istore 5, 2) := by decide +kernel
theorem dX12_say_136 : decode cX12_say 136 = .ok (.aload_n 0, 1) := by decide +kernel
theorem dX12_say_137 : decode cX12_say 137 = .ok (.aload_n 0, 1) := by decide +kernel
theorem dX12_say_138 : decode cX12_say 138 = .ok (.getfield 269, 3) := by decide +kernel
theorem dX12_say_141 : decode cX12_say 141 = .ok (.putfield 281, 3) := by decide +kernel
theorem dX12_say_144 : decode cX12_say 144 = .ok (.aload_n 0, 1) := by decide +kernel
theorem dX12_say_145 : decode cX12_say 145 = .ok (.dup, 1) := by decide +kernel
theorem dX12_say_146 : decode cX12_say 146 = .ok (.getfield 284, 3) := by decide +kernel
theorem dX12_say_149 : decode cX12_say 149 = .ok (.iconst 1, 1) := by decide +kernel
theorem dX12_say_150 : decode cX12_say 150 = .ok (.iadd, 1) := by decide +kernel
theorem dX12_say_151 : decode cX12_say 151 = .ok (.putfield 284, 3) := by decide +kernel
theorem dX12_say_154 : decode cX12_say 154 = .ok (.aload_n 0, 1) := by decide +kernel
theorem dX12_say_155 : decode cX12_say 155 = .ok (.getfield 49, 3) := by decide +kernel
theorem dX12_say_158 : decode cX12_say 158 = .ok (.iload_n 1, 1) := by decide +kernel
theorem dX12_say_159 : decode cX12_say 159 = .ok (.dup2, 1) := by decide +kernel
theorem dX12_say_160 : decode cX12_say 160 = .ok (.iaload, 1) := by decide +kernel
theorem dX12_say_161 : decode cX12_say 161 = .ok (.iconst 1, 1) := by decide +kernel
theorem dX12_say_162 : decode cX12_say 162 = .ok (.iadd, 1) := by decide +kernel
theorem dX12_say_163 : decode cX12_say 163 = .ok (.iastore, 1) := by decide +kernel
theorem dX12_say_164 : decode cX12_say 164 = .ok (.aload_n 0, 1) := by decide +kernel
theorem dX12_say_165 : decode cX12_say 165 = .ok (.getfield 52, 3) := by decide +kernel
theorem dX12_say_168 : decode cX12_say 168 = .ok (.iload_n 1, 1) := by decide +kernel
theorem dX12_say_169 : decode cX12_say 169 = .ok (.iload 5, 2) := by decide +kernel
theorem dX12_say_171 : decode cX12_say 171 = .ok (.iastore, 1) := by decide +kernel
theorem dX12_say_172 : decode cX12_say 172 = .ok (.aload_n 0, 1) := by decide +kernel
theorem dX12_say_173 : decode cX12_say 173 = .ok (.dup, 1) := by decide +kernel
theorem dX12_say_174 : decode cX12_say 174 = .ok (.getfield 289, 3) := by decide +kernel
theorem dX12_say_177 : decode cX12_say 177 = .ok (.iload_n 2, 1) := by decide +kernel
theorem dX12_say_178 : decode cX12_say 178 = .ok (.iconst 1, 1) := by decide +kernel
theorem dX12_say_179 : decode cX12_say 179 = .ok (.if_icmp .ne 16, 3) := by decide +kernel
theorem dX12_say_182 : decode cX12_say 182 = .ok (.aload_n 0, 1) := by decide +kernel
theorem dX12_say_183 : decode cX12_say 183 = .ok (.getfield 11, 3) := by decide +kernel
theorem dX12_say_186 : decode cX12_say 186 = .ok (.sipush 154, 3) := by decide +kernel
theorem dX12_say_189 : decode cX12_say 189 = .ok (.iload_n 3, 1) := by decide +kernel
theorem dX12_say_190 : decode cX12_say 190 = .ok (.iadd, 1) := by decide +kernel
theorem dX12_say_191 : decode cX12_say 191 = .ok (.iaload, 1) := by decide +kernel
theorem dX12_say_192 : decode cX12_say 192 = .ok (.goto 4, 3) := by decide +kernel
theorem dX12_say_195 : decode cX12_say 195 = .ok (.iconst 1, 1) := by decide +kernel
theorem dX12_say_196 : decode cX12_say 196 = .ok (.iadd, 1) := by decide +kernel
theorem dX12_say_197 : decode cX12_say 197 = .ok (.putfield 289, 3) := by decide +kernel
theorem dX12_say_200 : decode cX12_say 200 = .ok (.iload 5, 2) := by decide +kernel
theorem dX12_say_202 : decode cX12_say 202 = .ok (.ireturn, 1) := by decide +kernel
def f_X12_say_b196 (σ : St) (x5 : Int32) (s0 : Int32) (s1 : Int32) : Option (Int32 × St) := some (x5, sI σ 630 0 (s1 + s0))
def f_X12_say_b134 (σ : St) (x1 : Int32) (x2 : Int32) (x3 : Int32) (s0 : Int32) : Option (Int32 × St) := bnd (sI (sI σ 624 0 (σ.1 622 0)) 625 0 (((sI σ 624 0 (σ.1 622 0)).1 625 0) + (1 : Int32))) (fun σ26 => chk (x1 < 0 ∨ 6 ≤ x1.toNatClampNeg) (chk (x1 < 0 ∨ 6 ≤ x1.toNatClampNeg) (bnd (sA σ26 626 0 (upd (σ26.2.2.1 626 0) x1.toNatClampNeg ((σ26.2.2.1 626 0 x1.toNatClampNeg) + (1 : Int32)))) (fun σ29 => chk (x1 < 0 ∨ 6 ≤ x1.toNatClampNeg) (bnd (sA σ29 627 0 (upd (σ29.2.2.1 627 0) x1.toNatClampNeg s0)) (fun σ31 => if x2 = (1 : Int32) then (chk ((154 : Int32) + x3 < 0 ∨ 179 ≤ ((154 : Int32) + x3).toNatClampNeg) (f_X12_say_b196 σ31 s0 (σ31.2.2.1 600 0 ((154 : Int32) + x3).toNatClampNeg) (σ31.1 630 0))) else (f_X12_say_b196 σ31 s0 (1 : Int32) (σ31.1 630 0))))))))
def f_X12_say_b131 (σ : St) (x1 : Int32) (x2 : Int32) (x3 : Int32) (s0 : Int32) (s1 : Int32) : Option (Int32 × St) := bnd2 (f_X12_drawnFor σ s1 s0) (fun r24 σ25 => f_X12_say_b134 σ25 x1 x2 x3 r24)
def f_X12_say_b96 (σ : St) (x1 : Int32) (x2 : Int32) (x3 : Int32) (s0 : Int32) : Option (Int32 × St) := if s0 = 0 then (chk (x1 < 0 ∨ 6 ≤ x1.toNatClampNeg) (if σ.2.2.1 626 0 x1.toNatClampNeg ≤ (9 : Int32) then (chk (x1 < 0 ∨ 6 ≤ x1.toNatClampNeg) (f_X12_say_b131 σ x1 x2 x3 (σ.2.2.1 626 0 x1.toNatClampNeg) x3)) else (f_X12_say_b131 σ x1 x2 x3 (9 : Int32) x3))) else (f_X12_say_b134 σ x1 x2 x3 x3)
def f_X12_say_b95 (σ : St) (x1 : Int32) (x2 : Int32) (x3 : Int32) : Option (Int32 × St) := f_X12_say_b96 σ x1 x2 x3 (0 : Int32)
def f_X12_say (σ : St) (p1 : Int32) (p2 : Int32) : Option (Int32 × St) := bnd1 (f_X12_within ((p1 : Int32).toInt64) (0 : Int64) (5 : Int64)) (fun r2 => if r2 = 0 then (some ((-1 : Int32), σ)) else (bnd1 (f_X12_within ((p2 : Int32).toInt64) (0 : Int64) (1 : Int64)) (fun r5 => if r5 = 0 then (some ((-1 : Int32), σ)) else (if 0 ≤ σ.1 623 0 then (chk (σ.1 623 0 < 0 ∨ 10 ≤ (σ.1 623 0).toNatClampNeg) (if p1 < σ.2.2.1 607 0 (σ.1 623 0).toNatClampNeg then (bnd2 (f_X12_at1 σ (σ.1 623 0) p1) (fun r11 σ12 => if p2 = (1 : Int32) then (bnd2 (f_X12_draws (sI σ12 622 0 (σ12.1 624 0)) (12 : Int32)) (fun r15 σ16 => chk ((166 : Int32) + r11 < 0 ∨ 179 ≤ ((166 : Int32) + r11).toNatClampNeg) (if σ16.2.2.1 600 0 ((166 : Int32) + r11).toNatClampNeg ≤ r15 then (f_X12_say_b95 σ16 p1 p2 r11) else (f_X12_say_b96 σ16 p1 p2 r11 (1 : Int32))))) else (f_X12_say_b95 (sI σ12 622 0 (σ12.1 624 0)) p1 p2 r11))) else (some ((-1 : Int32), σ)))) else (some ((-5 : Int32), σ))))))
set_option maxHeartbeats 4000000 in
set_option maxRecDepth 100000 in
theorem w_X12_say_b196 {p : Program} {l : Launch} {e : Env} {s : State} {m : MethodId} {args : Array Value} {below : List Frame} {meth : Method} {c : Code} {g : va_G} {ts : ClassId × ClassId × ClassId} {A : Nat → Prop} {Q : State → Prop} {a : Nat → Nat} {r : Int32} {σ' : St} (C : FX p s m args meth c RX12 cX12_say 6 g ts A) (hQ : RetI p l e (rk 101 2183) s m args below meth c cX12_say g (WM ts a) A r σ' Q) : ∀ (σ : St) (x5 : Int32) (s0 : Int32) (s1 : Int32) (H : Heap) (locs : List Loc) (ls : Array Slot), f_X12_say_b196 σ x5 s0 s1 = some (r, σ') → va_P g classes (WM ts a σ) H → va_D A (WM ts a σ) → va_S A s.heap H locs → lv_has ls 6 [(5, .int x5)] → W p l e (rk 101 2183) s m args below meth c H locs 0 0 Q (F0 m 196 ls [.int s0, .int s1, .ref (a 0)]) := by
  have hx := C.1
  have hb := C.2.1
  have hown := C.2.2.2.1
  have hts := C.2.2.2.2.1
  intro σ x5 s0 s1 H locs ls hf hP hD hS hl
  rw [f_X12_say_b196] at hf
  refine lv_iadd hx hb dX12_say_196 ?_
  refine S_X12_ledTime C hP hD hS q_1102 dX12_say_197 (fun H locs hP hD hS => ?_)
  refine lv_iload hx hb dX12_say_200 (lv_at hl 0 rfl) ?_
  exact retI hQ hf dX12_say_202 hP hD hS
set_option maxHeartbeats 4000000 in
set_option maxRecDepth 100000 in
theorem w_X12_say_b134 {p : Program} {l : Launch} {e : Env} {s : State} {m : MethodId} {args : Array Value} {below : List Frame} {meth : Method} {c : Code} {g : va_G} {ts : ClassId × ClassId × ClassId} {A : Nat → Prop} {Q : State → Prop} {a : Nat → Nat} {r : Int32} {σ' : St} (C : FX p s m args meth c RX12 cX12_say 6 g ts A) (hQ : RetI p l e (rk 101 2183) s m args below meth c cX12_say g (WM ts a) A r σ' Q) : ∀ (σ : St) (x1 : Int32) (x2 : Int32) (x3 : Int32) (s0 : Int32) (H : Heap) (locs : List Loc) (ls : Array Slot), f_X12_say_b134 σ x1 x2 x3 s0 = some (r, σ') → va_P g classes (WM ts a σ) H → va_D A (WM ts a σ) → va_S A s.heap H locs → lv_has ls 6 [(0, .ref (a 0)), (1, .int x1), (2, .int x2), (3, .int x3)] → W p l e (rk 101 2183) s m args below meth c H locs 0 0 Q (F0 m 134 ls [.int s0]) := by
  have hx := C.1
  have hb := C.2.1
  have hown := C.2.2.2.1
  have hts := C.2.2.2.2.1
  intro σ x1 x2 x3 s0 H locs ls hf hP hD hS hl
  rw [f_X12_say_b134] at hf
  refine lv_istore (lv' := [(5, .int s0), (0, .ref (a 0)), (1, .int x1), (2, .int x2), (3, .int x3)]) hx hb dX12_say_134 hl (by decide) rfl (fun ls hl => ?_)
  refine lv_aload_n hx hb dX12_say_136 rfl (lv_at hl 1 rfl) ?_
  refine lv_aload_n hx hb dX12_say_137 rfl (lv_at hl 1 rfl) ?_
  refine G_X12_z C hP q_1094 dX12_say_138 ?_
  refine S_X12_onDraws C hP hD hS q_1096 dX12_say_141 (fun H locs hP hD hS => ?_)
  refine lv_aload_n hx hb dX12_say_144 rfl (lv_at hl 1 rfl) ?_
  refine lv_dup hx hb dX12_say_145 rfl ?_
  refine G_X12_onSaid C hP q_1097 dX12_say_146 ?_
  refine lv_iconst (v := 1) hx hb dX12_say_149 (by decide) ?_
  refine lv_iadd hx hb dX12_say_150 ?_
  refine S_X12_onSaid C hP hD hS q_1097 dX12_say_151 (fun H locs hP hD hS => ?_)
  refine nameS hP hD hf (fun σ26 hP hD hf => ?_)
  refine lv_aload_n hx hb dX12_say_154 rfl (lv_at hl 1 rfl) ?_
  refine G_X12_saidMany C hP q_1098 dX12_say_155 ?_
  refine lv_iload_n hx hb dX12_say_158 rfl (lv_at hl 2 rfl) ?_
  refine lv_dup2_11 hx hb dX12_say_159 rfl rfl ?_
  obtain ⟨h27, hf⟩ := chk_some hf
  refine AL_X12_saidMany C hP h27 dX12_say_160 ?_
  refine lv_iconst (v := 1) hx hb dX12_say_161 (by decide) ?_
  refine lv_iadd hx hb dX12_say_162 ?_
  obtain ⟨h28, hf⟩ := chk_some hf
  refine AS_X12_saidMany C hP hD hS h28 dX12_say_163 (fun H locs hP hD hS => ?_)
  refine nameS hP hD hf (fun σ29 hP hD hf => ?_)
  refine lv_aload_n hx hb dX12_say_164 rfl (lv_at hl 1 rfl) ?_
  refine G_X12_notedAs C hP q_1099 dX12_say_165 ?_
  refine lv_iload_n hx hb dX12_say_168 rfl (lv_at hl 2 rfl) ?_
  refine lv_iload hx hb dX12_say_169 (lv_at hl 0 rfl) ?_
  obtain ⟨h30, hf⟩ := chk_some hf
  refine AS_X12_notedAs C hP hD hS h30 dX12_say_171 (fun H locs hP hD hS => ?_)
  refine nameS hP hD hf (fun σ31 hP hD hf => ?_)
  refine lv_aload_n hx hb dX12_say_172 rfl (lv_at hl 1 rfl) ?_
  refine lv_dup hx hb dX12_say_173 rfl ?_
  refine G_X12_ledTime C hP q_1102 dX12_say_174 ?_
  refine lv_iload_n hx hb dX12_say_177 rfl (lv_at hl 3 rfl) ?_
  refine lv_iconst (v := 1) hx hb dX12_say_178 (by decide) ?_
  refine lv_icmp_ne (tgt := 195) hx hb dX12_say_179 (by decide) (fun c32 => ?_) (fun c32 => ?_)
  · replace hf := ineg c32 hf
    refine lv_iconst (v := 1) hx hb dX12_say_195 (by decide) ?_
    exact w_X12_say_b196 C hQ _ _ _ _ _ _ _ hf hP hD hS (lv_sub hl [0] rfl)
  · replace hf := ipos c32 hf
    refine lv_aload_n hx hb dX12_say_182 rfl (lv_at hl 1 rfl) ?_
    refine G_X12_may C hP q_1072 dX12_say_183 ?_
    refine lv_sipush (v := 154) hx hb dX12_say_186 (by decide) ?_
    refine lv_iload_n hx hb dX12_say_189 rfl (lv_at hl 4 rfl) ?_
    refine lv_iadd hx hb dX12_say_190 ?_
    obtain ⟨h33, hf⟩ := chk_some hf
    refine AL_X12_may C hP h33 dX12_say_191 ?_
    refine lv_goto (tgt := 196) hx hb dX12_say_192 (by decide) ?_
    exact w_X12_say_b196 C hQ _ _ _ _ _ _ _ hf hP hD hS (lv_sub hl [0] rfl)
set_option maxHeartbeats 4000000 in
set_option maxRecDepth 100000 in
theorem w_X12_say_b131 {p : Program} {l : Launch} {e : Env} {s : State} {m : MethodId} {args : Array Value} {below : List Frame} {meth : Method} {c : Code} {g : va_G} {ts : ClassId × ClassId × ClassId} {A : Nat → Prop} {Q : State → Prop} {a : Nat → Nat} {r : Int32} {σ' : St} (C : FX p s m args meth c RX12 cX12_say 6 g ts A) (hQ : RetI p l e (rk 101 2183) s m args below meth c cX12_say g (WM ts a) A r σ' Q) : ∀ (σ : St) (x1 : Int32) (x2 : Int32) (x3 : Int32) (s0 : Int32) (s1 : Int32) (H : Heap) (locs : List Loc) (ls : Array Slot), f_X12_say_b131 σ x1 x2 x3 s0 s1 = some (r, σ') → va_P g classes (WM ts a σ) H → va_D A (WM ts a σ) → va_S A s.heap H locs → lv_has ls 6 [(0, .ref (a 0)), (1, .int x1), (2, .int x2), (3, .int x3)] → W p l e (rk 101 2183) s m args below meth c H locs 0 0 Q (F0 m 131 ls [.int s0, .int s1, .ref (a 0)]) := by
  have hx := C.1
  have hb := C.2.1
  have hown := C.2.2.2.1
  have hts := C.2.2.2.2.1
  intro σ x1 x2 x3 s0 s1 H locs ls hf hP hD hS hl
  rw [f_X12_say_b131] at hf
  obtain ⟨r24, σ25, h23, hf⟩ := bnd2_some hf
  refine vI [] C hP hD hS (c_X12_drawnFor h23) mv_X12_drawnFor q_1475 rv_X12 dX12_say_131 ⟨Nat.le_of_ble_eq_true rfl, Nat.le_of_ble_eq_true rfl⟩ ⟨Nat.zero_le _, Nat.zero_le _⟩ rfl rfl (Nat.le_of_ble_eq_true rfl) hl.1 (fun H locs hP hD hS => ?_)
  exact w_X12_say_b134 C hQ _ _ _ _ _ _ _ _ hf hP hD hS (lv_sub hl [0, 1, 2, 3] rfl)
set_option maxHeartbeats 4000000 in
set_option maxRecDepth 100000 in
theorem w_X12_say_b96 {p : Program} {l : Launch} {e : Env} {s : State} {m : MethodId} {args : Array Value} {below : List Frame} {meth : Method} {c : Code} {g : va_G} {ts : ClassId × ClassId × ClassId} {A : Nat → Prop} {Q : State → Prop} {a : Nat → Nat} {r : Int32} {σ' : St} (C : FX p s m args meth c RX12 cX12_say 6 g ts A) (hQ : RetI p l e (rk 101 2183) s m args below meth c cX12_say g (WM ts a) A r σ' Q) : ∀ (σ : St) (x1 : Int32) (x2 : Int32) (x3 : Int32) (s0 : Int32) (H : Heap) (locs : List Loc) (ls : Array Slot), f_X12_say_b96 σ x1 x2 x3 s0 = some (r, σ') → va_P g classes (WM ts a σ) H → va_D A (WM ts a σ) → va_S A s.heap H locs → lv_has ls 6 [(0, .ref (a 0)), (1, .int x1), (2, .int x2), (3, .int x3)] → W p l e (rk 101 2183) s m args below meth c H locs 0 0 Q (F0 m 96 ls [.int s0]) := by
  have hx := C.1
  have hb := C.2.1
  have hown := C.2.2.2.1
  have hts := C.2.2.2.2.1
  intro σ x1 x2 x3 s0 H locs ls hf hP hD hS hl
  rw [f_X12_say_b96] at hf
  refine lv_istore (lv' := [(4, .int s0), (0, .ref (a 0)), (1, .int x1), (2, .int x2), (3, .int x3)]) hx hb dX12_say_96 hl (by decide) rfl (fun ls hl => ?_)
  refine lv_iload hx hb dX12_say_98 (lv_at hl 0 rfl) ?_
  refine lv_if_eq (tgt := 107) hx hb dX12_say_100 (by decide) (fun c19 => ?_) (fun c19 => ?_)
  · replace hf := ipos c19 hf
    refine lv_aload_n hx hb dX12_say_107 rfl (lv_at hl 1 rfl) ?_
    refine lv_iload_n hx hb dX12_say_108 rfl (lv_at hl 4 rfl) ?_
    refine lv_aload_n hx hb dX12_say_109 rfl (lv_at hl 1 rfl) ?_
    refine G_X12_saidMany C hP q_1098 dX12_say_110 ?_
    refine lv_iload_n hx hb dX12_say_113 rfl (lv_at hl 2 rfl) ?_
    obtain ⟨h20, hf⟩ := chk_some hf
    refine AL_X12_saidMany C hP h20 dX12_say_114 ?_
    refine lv_bipush (v := 9) hx hb dX12_say_115 (by decide) ?_
    refine lv_icmp_le (tgt := 125) hx hb dX12_say_117 (by decide) (fun c21 => ?_) (fun c21 => ?_)
    · replace hf := ipos c21 hf
      refine lv_aload_n hx hb dX12_say_125 rfl (lv_at hl 1 rfl) ?_
      refine G_X12_saidMany C hP q_1098 dX12_say_126 ?_
      refine lv_iload_n hx hb dX12_say_129 rfl (lv_at hl 2 rfl) ?_
      obtain ⟨h22, hf⟩ := chk_some hf
      refine AL_X12_saidMany C hP h22 dX12_say_130 ?_
      exact w_X12_say_b131 C hQ _ _ _ _ _ _ _ _ _ hf hP hD hS (lv_sub hl [1, 2, 3, 4] rfl)
    · replace hf := ineg c21 hf
      refine lv_bipush (v := 9) hx hb dX12_say_120 (by decide) ?_
      refine lv_goto (tgt := 131) hx hb dX12_say_122 (by decide) ?_
      exact w_X12_say_b131 C hQ _ _ _ _ _ _ _ _ _ hf hP hD hS (lv_sub hl [1, 2, 3, 4] rfl)
  · replace hf := ineg c19 hf
    refine lv_iload_n hx hb dX12_say_103 rfl (lv_at hl 4 rfl) ?_
    refine lv_goto (tgt := 134) hx hb dX12_say_104 (by decide) ?_
    exact w_X12_say_b134 C hQ _ _ _ _ _ _ _ _ hf hP hD hS (lv_sub hl [1, 2, 3, 4] rfl)
set_option maxHeartbeats 4000000 in
set_option maxRecDepth 100000 in
theorem w_X12_say_b95 {p : Program} {l : Launch} {e : Env} {s : State} {m : MethodId} {args : Array Value} {below : List Frame} {meth : Method} {c : Code} {g : va_G} {ts : ClassId × ClassId × ClassId} {A : Nat → Prop} {Q : State → Prop} {a : Nat → Nat} {r : Int32} {σ' : St} (C : FX p s m args meth c RX12 cX12_say 6 g ts A) (hQ : RetI p l e (rk 101 2183) s m args below meth c cX12_say g (WM ts a) A r σ' Q) : ∀ (σ : St) (x1 : Int32) (x2 : Int32) (x3 : Int32) (H : Heap) (locs : List Loc) (ls : Array Slot), f_X12_say_b95 σ x1 x2 x3 = some (r, σ') → va_P g classes (WM ts a σ) H → va_D A (WM ts a σ) → va_S A s.heap H locs → lv_has ls 6 [(0, .ref (a 0)), (1, .int x1), (2, .int x2), (3, .int x3)] → W p l e (rk 101 2183) s m args below meth c H locs 0 0 Q (F0 m 95 ls []) := by
  have hx := C.1
  have hb := C.2.1
  have hown := C.2.2.2.1
  have hts := C.2.2.2.2.1
  intro σ x1 x2 x3 H locs ls hf hP hD hS hl
  rw [f_X12_say_b95] at hf
  refine lv_iconst (v := 0) hx hb dX12_say_95 (by decide) ?_
  exact w_X12_say_b96 C hQ _ _ _ _ _ _ _ _ hf hP hD hS (lv_sub hl [0, 1, 2, 3] rfl)
set_option maxHeartbeats 4000000 in
set_option maxRecDepth 100000 in
theorem c_X12_say {l : Launch} {g : va_G} {ts : ClassId × ClassId × ClassId} {a : Nat → Nat} {σ : St} {p1 : Int32} {p2 : Int32} {r : Int32} {σ' : St} (hf : f_X12_say σ p1 p2 = some (r, σ')) : ConI l g ts (WM ts a) yX12_say cX12_say 6 (some .int) (rk 101 2183) σ [.ref (a 0), .int p1, .int p2] r σ' := by
  refine ConI_mk .int rfl rfl rfl rfl (by decide) (Nat.le_of_ble_eq_true rfl) ?_
  intro p e s m below meth c A Q ls C hQ hP hD hS hl
  have C : FX p s m _ meth c RX12 cX12_say 6 g ts A := C
  have hx := C.1
  have hb := C.2.1
  have hown := C.2.2.2.1
  have hts := C.2.2.2.2.1
  have hl : lv_has ls 6 [(0, .ref (a 0)), (1, .int p1), (2, .int p2)] := hl
  rw [f_X12_say] at hf
  refine lv_iload_n hx hb dX12_say_0 rfl (lv_at hl 1 rfl) ?_
  refine lv_i2l (v := (p1 : Int32).toInt64) hx hb dX12_say_1 rfl ?_
  refine lv_lconst (v := 0) hx hb dX12_say_2 (by decide) ?_
  refine lv_ldc2 hx hb hown (hts _ q_1217) dX12_say_3 ?_
  obtain ⟨r2, h1, hf⟩ := bnd1_some hf
  refine tI [] C hP hD hS (c_X12_within h1) ms_X12_within q_1218 dX12_say_6 ⟨Nat.le_of_ble_eq_true rfl, Nat.le_of_ble_eq_true rfl⟩ ⟨Nat.zero_le _, Nat.zero_le _⟩ rfl rfl (Nat.le_of_ble_eq_true rfl) hl.1 (fun H locs hP hD hS => ?_)
  refine lv_if_eq (tgt := 22) hx hb dX12_say_9 (by decide) (fun c3 => ?_) (fun c3 => ?_)
  · replace hf := ipos c3 hf
    refine lv_iconst (v := -1) hx hb dX12_say_22 (by decide) ?_
    exact retI hQ hf dX12_say_23 hP hD hS
  · replace hf := ineg c3 hf
    refine lv_iload_n hx hb dX12_say_12 rfl (lv_at hl 2 rfl) ?_
    refine lv_i2l (v := (p2 : Int32).toInt64) hx hb dX12_say_13 rfl ?_
    refine lv_lconst (v := 0) hx hb dX12_say_14 (by decide) ?_
    refine lv_lconst (v := 1) hx hb dX12_say_15 (by decide) ?_
    obtain ⟨r5, h4, hf⟩ := bnd1_some hf
    refine tI [] C hP hD hS (c_X12_within h4) ms_X12_within q_1218 dX12_say_16 ⟨Nat.le_of_ble_eq_true rfl, Nat.le_of_ble_eq_true rfl⟩ ⟨Nat.zero_le _, Nat.zero_le _⟩ rfl rfl (Nat.le_of_ble_eq_true rfl) hl.1 (fun H locs hP hD hS => ?_)
    refine lv_if_ne (tgt := 24) hx hb dX12_say_19 (by decide) (fun c6 => ?_) (fun c6 => ?_)
    · replace hf := ineg c6 hf
      refine lv_aload_n hx hb dX12_say_24 rfl (lv_at hl 0 rfl) ?_
      refine G_X12_onName C hP q_1095 dX12_say_25 ?_
      refine lv_if_ge (tgt := 34) hx hb dX12_say_28 (by decide) (fun c7 => ?_) (fun c7 => ?_)
      · replace hf := ipos c7 hf
        refine lv_iload_n hx hb dX12_say_34 rfl (lv_at hl 1 rfl) ?_
        refine lv_aload_n hx hb dX12_say_35 rfl (lv_at hl 0 rfl) ?_
        refine G_X12_longs C hP q_1079 dX12_say_36 ?_
        refine lv_aload_n hx hb dX12_say_39 rfl (lv_at hl 0 rfl) ?_
        refine G_X12_onName C hP q_1095 dX12_say_40 ?_
        obtain ⟨h8, hf⟩ := chk_some hf
        refine AL_X12_longs C hP h8 dX12_say_43 ?_
        refine lv_icmp_lt (tgt := 49) hx hb dX12_say_44 (by decide) (fun c9 => ?_) (fun c9 => ?_)
        · replace hf := ipos c9 hf
          refine lv_aload_n hx hb dX12_say_49 rfl (lv_at hl 0 rfl) ?_
          refine lv_aload_n hx hb dX12_say_50 rfl (lv_at hl 0 rfl) ?_
          refine G_X12_onName C hP q_1095 dX12_say_51 ?_
          refine lv_iload_n hx hb dX12_say_54 rfl (lv_at hl 1 rfl) ?_
          obtain ⟨r11, σ12, h10, hf⟩ := bnd2_some hf
          refine vI [] C hP hD hS (c_X12_at1 h10) mv_X12_at1 q_1266 rv_X12 dX12_say_55 ⟨Nat.le_of_ble_eq_true rfl, Nat.le_of_ble_eq_true rfl⟩ ⟨Nat.zero_le _, Nat.zero_le _⟩ rfl rfl (Nat.le_of_ble_eq_true rfl) hl.1 (fun H locs hP hD hS => ?_)
          refine lv_istore_n (lv' := [(3, .int r11), (0, .ref (a 0)), (1, .int p1), (2, .int p2)]) hx hb dX12_say_58 rfl hl (by decide) rfl (fun ls hl => ?_)
          refine lv_aload_n hx hb dX12_say_59 rfl (lv_at hl 1 rfl) ?_
          refine lv_aload_n hx hb dX12_say_60 rfl (lv_at hl 1 rfl) ?_
          refine G_X12_onDraws C hP q_1096 dX12_say_61 ?_
          refine S_X12_z C hP hD hS q_1094 dX12_say_64 (fun H locs hP hD hS => ?_)
          refine lv_iload_n hx hb dX12_say_67 rfl (lv_at hl 3 rfl) ?_
          refine lv_iconst (v := 1) hx hb dX12_say_68 (by decide) ?_
          refine lv_icmp_ne (tgt := 95) hx hb dX12_say_69 (by decide) (fun c13 => ?_) (fun c13 => ?_)
          · replace hf := ineg c13 hf
            exact w_X12_say_b95 C hQ _ _ _ _ _ _ _ hf hP hD hS (lv_sub hl [1, 2, 3, 0] rfl)
          · replace hf := ipos c13 hf
            refine lv_aload_n hx hb dX12_say_72 rfl (lv_at hl 1 rfl) ?_
            refine lv_bipush (v := 12) hx hb dX12_say_73 (by decide) ?_
            obtain ⟨r15, σ16, h14, hf⟩ := bnd2_some hf
            refine vI [] C hP hD hS (c_X12_draws h14) mv_X12_draws q_1479 rv_X12 dX12_say_75 ⟨Nat.le_of_ble_eq_true rfl, Nat.le_of_ble_eq_true rfl⟩ ⟨Nat.zero_le _, Nat.zero_le _⟩ rfl rfl (Nat.le_of_ble_eq_true rfl) hl.1 (fun H locs hP hD hS => ?_)
            refine lv_aload_n hx hb dX12_say_78 rfl (lv_at hl 1 rfl) ?_
            refine G_X12_may C hP q_1072 dX12_say_79 ?_
            refine lv_sipush (v := 166) hx hb dX12_say_82 (by decide) ?_
            refine lv_iload_n hx hb dX12_say_85 rfl (lv_at hl 0 rfl) ?_
            refine lv_iadd hx hb dX12_say_86 ?_
            obtain ⟨h17, hf⟩ := chk_some hf
            refine AL_X12_may C hP h17 dX12_say_87 ?_
            refine lv_icmp_ge (tgt := 95) hx hb dX12_say_88 (by decide) (fun c18 => ?_) (fun c18 => ?_)
            · replace hf := ipos c18 hf
              exact w_X12_say_b95 C hQ _ _ _ _ _ _ _ hf hP hD hS (lv_sub hl [1, 2, 3, 0] rfl)
            · replace hf := ineg c18 hf
              refine lv_iconst (v := 1) hx hb dX12_say_91 (by decide) ?_
              refine lv_goto (tgt := 96) hx hb dX12_say_92 (by decide) ?_
              exact w_X12_say_b96 C hQ _ _ _ _ _ _ _ _ hf hP hD hS (lv_sub hl [1, 2, 3, 0] rfl)
        · replace hf := ineg c9 hf
          refine lv_iconst (v := -1) hx hb dX12_say_47 (by decide) ?_
          exact retI hQ hf dX12_say_48 hP hD hS
      · replace hf := ineg c7 hf
        refine lv_bipush (v := -5) hx hb dX12_say_31 (by decide) ?_
        exact retI hQ hf dX12_say_33 hP hD hS
    · replace hf := ipos c6 hf
      refine lv_iconst (v := -1) hx hb dX12_say_22 (by decide) ?_
      exact retI hQ hf dX12_say_23 hP hD hS
theorem dX12_noted_0 : decode cX12_noted 0 = .ok (.iload_n 1, 1) := by decide +kernel
theorem dX12_noted_1 : decode cX12_noted 1 = .ok (.i2l, 1) := by decide +kernel
theorem dX12_noted_2 : decode cX12_noted 2 = .ok (.lconst 0, 1) := by decide +kernel
theorem dX12_noted_3 : decode cX12_noted 3 = .ok (.ldc2_w 287, 3) := by decide +kernel
theorem dX12_noted_6 : decode cX12_noted 6 = .ok (.invokestatic 91, 3) := by decide +kernel
theorem dX12_noted_9 : decode cX12_noted 9 = .ok (.ifCond .ne 5, 3) := by decide +kernel
theorem dX12_noted_12 : decode cX12_noted 12 = .ok (.iconst (-1), 1) := by decide +kernel
theorem dX12_noted_13 : decode cX12_noted 13 = .ok (.ireturn, 1) := by decide +kernel
theorem dX12_noted_14 : decode cX12_noted 14 = .ok (.aload_n 0, 1) := by decide +kernel
theorem dX12_noted_15 : decode cX12_noted 15 = .ok (.getfield 80, 3) := by decide +kernel
theorem dX12_noted_18 : decode cX12_noted 18 = .ok (.ifCond .ge 6, 3) := by decide +kernel
theorem dX12_noted_21 : decode cX12_noted 21 = .ok (.bipush (-5), 2) := by decide +kernel
theorem dX12_noted_23 : decode cX12_noted 23 = .ok (.ireturn, 1) := by decide +kernel
theorem dX12_noted_24 : decode cX12_noted 24 = .ok (.iload_n 1, 1) := by decide +kernel
theorem dX12_noted_25 : decode cX12_noted 25 = .ok (.aload_n 0, 1) := by decide +kernel
theorem dX12_noted_26 : decode cX12_noted 26 = .ok (.getfield 24, 3) := by decide +kernel
theorem dX12_noted_29 : decode cX12_noted 29 = .ok (.aload_n 0, 1) := by decide +kernel
theorem dX12_noted_30 : decode cX12_noted 30 = .ok (.getfield 80, 3) := by decide +kernel
theorem dX12_noted_33 : decode cX12_noted 33 = .ok (.iaload, 1) := by decide +kernel
theorem dX12_noted_34 : decode cX12_noted 34 = .ok (.if_icmp .ge 12, 3) := by decide +kernel
theorem dX12_noted_37 : decode cX12_noted 37 = .ok (.aload_n 0, 1) := by decide +kernel
theorem dX12_noted_38 : decode cX12_noted 38 = .ok (.getfield 52, 3) := by decide +kernel
theorem dX12_noted_41 : decode cX12_noted 41 = .ok (.iload_n 1, 1) := by decide +kernel
theorem dX12_noted_42 : decode cX12_noted 42 = .ok (.iaload, 1) := by decide +kernel
theorem dX12_noted_43 : decode cX12_noted 43 = .ok (.goto 4, 3) := by decide +kernel
theorem dX12_noted_46 : decode cX12_noted 46 = .ok (.iconst (-1), 1) := by decide +kernel
theorem dX12_noted_47 : decode cX12_noted 47 = .ok (.ireturn, 1) := by decide +kernel
def f_X12_noted (σ : St) (p1 : Int32) : Option (Int32 × St) := bnd1 (f_X12_within ((p1 : Int32).toInt64) (0 : Int64) (5 : Int64)) (fun r2 => if r2 = 0 then (some ((-1 : Int32), σ)) else (if 0 ≤ σ.1 623 0 then (chk (σ.1 623 0 < 0 ∨ 10 ≤ (σ.1 623 0).toNatClampNeg) (if σ.2.2.1 607 0 (σ.1 623 0).toNatClampNeg ≤ p1 then (some ((-1 : Int32), σ)) else (chk (p1 < 0 ∨ 6 ≤ p1.toNatClampNeg) (some (σ.2.2.1 627 0 p1.toNatClampNeg, σ))))) else (some ((-5 : Int32), σ))))
set_option maxHeartbeats 4000000 in
set_option maxRecDepth 100000 in
theorem c_X12_noted {l : Launch} {g : va_G} {ts : ClassId × ClassId × ClassId} {a : Nat → Nat} {σ : St} {p1 : Int32} {r : Int32} {σ' : St} (hf : f_X12_noted σ p1 = some (r, σ')) : ConI l g ts (WM ts a) yX12_noted cX12_noted 2 (some .int) (rk 1 25) σ [.ref (a 0), .int p1] r σ' := by
  refine ConI_mk .int rfl rfl rfl rfl (by decide) (Nat.le_of_ble_eq_true rfl) ?_
  intro p e s m below meth c A Q ls C hQ hP hD hS hl
  have C : FX p s m _ meth c RX12 cX12_noted 2 g ts A := C
  have hx := C.1
  have hb := C.2.1
  have hown := C.2.2.2.1
  have hts := C.2.2.2.2.1
  have hl : lv_has ls 2 [(0, .ref (a 0)), (1, .int p1)] := hl
  rw [f_X12_noted] at hf
  refine lv_iload_n hx hb dX12_noted_0 rfl (lv_at hl 1 rfl) ?_
  refine lv_i2l (v := (p1 : Int32).toInt64) hx hb dX12_noted_1 rfl ?_
  refine lv_lconst (v := 0) hx hb dX12_noted_2 (by decide) ?_
  refine lv_ldc2 hx hb hown (hts _ q_1217) dX12_noted_3 ?_
  obtain ⟨r2, h1, hf⟩ := bnd1_some hf
  refine tI [] C hP hD hS (c_X12_within h1) ms_X12_within q_1218 dX12_noted_6 ⟨Nat.le_of_ble_eq_true rfl, Nat.le_of_ble_eq_true rfl⟩ ⟨Nat.zero_le _, Nat.zero_le _⟩ rfl rfl (Nat.le_of_ble_eq_true rfl) hl.1 (fun H locs hP hD hS => ?_)
  refine lv_if_ne (tgt := 14) hx hb dX12_noted_9 (by decide) (fun c3 => ?_) (fun c3 => ?_)
  · replace hf := ineg c3 hf
    refine lv_aload_n hx hb dX12_noted_14 rfl (lv_at hl 0 rfl) ?_
    refine G_X12_onName C hP q_1095 dX12_noted_15 ?_
    refine lv_if_ge (tgt := 24) hx hb dX12_noted_18 (by decide) (fun c4 => ?_) (fun c4 => ?_)
    · replace hf := ipos c4 hf
      refine lv_iload_n hx hb dX12_noted_24 rfl (lv_at hl 1 rfl) ?_
      refine lv_aload_n hx hb dX12_noted_25 rfl (lv_at hl 0 rfl) ?_
      refine G_X12_longs C hP q_1079 dX12_noted_26 ?_
      refine lv_aload_n hx hb dX12_noted_29 rfl (lv_at hl 0 rfl) ?_
      refine G_X12_onName C hP q_1095 dX12_noted_30 ?_
      obtain ⟨h5, hf⟩ := chk_some hf
      refine AL_X12_longs C hP h5 dX12_noted_33 ?_
      refine lv_icmp_ge (tgt := 46) hx hb dX12_noted_34 (by decide) (fun c6 => ?_) (fun c6 => ?_)
      · replace hf := ipos c6 hf
        refine lv_iconst (v := -1) hx hb dX12_noted_46 (by decide) ?_
        exact retI hQ hf dX12_noted_47 hP hD hS
      · replace hf := ineg c6 hf
        refine lv_aload_n hx hb dX12_noted_37 rfl (lv_at hl 0 rfl) ?_
        refine G_X12_notedAs C hP q_1099 dX12_noted_38 ?_
        refine lv_iload_n hx hb dX12_noted_41 rfl (lv_at hl 1 rfl) ?_
        obtain ⟨h7, hf⟩ := chk_some hf
        refine AL_X12_notedAs C hP h7 dX12_noted_42 ?_
        refine lv_goto (tgt := 47) hx hb dX12_noted_43 (by decide) ?_
        exact retI hQ hf dX12_noted_47 hP hD hS
    · replace hf := ineg c4 hf
      refine lv_bipush (v := -5) hx hb dX12_noted_21 (by decide) ?_
      exact retI hQ hf dX12_noted_23 hP hD hS
  · replace hf := ipos c3 hf
    refine lv_iconst (v := -1) hx hb dX12_noted_12 (by decide) ?_
    exact retI hQ hf dX12_noted_13 hP hD hS
theorem dX12_wrongNoted_0 : decode cX12_wrongNoted 0 = .ok (.iconst 0, 1) := by decide +kernel
theorem dX12_wrongNoted_1 : decode cX12_wrongNoted 1 = .ok (.istore_n 1, 1) := by decide +kernel
theorem dX12_wrongNoted_2 : decode cX12_wrongNoted 2 = .ok (.iconst 0, 1) := by decide +kernel
theorem dX12_wrongNoted_3 : decode cX12_wrongNoted 3 = .ok (.istore_n 2, 1) := by decide +kernel
theorem dX12_wrongNoted_4 : decode cX12_wrongNoted 4 = .ok (.iload_n 2, 1) := by decide +kernel
theorem dX12_wrongNoted_5 : decode cX12_wrongNoted 5 = .ok (.aload_n 0, 1) := by decide +kernel
theorem dX12_wrongNoted_6 : decode cX12_wrongNoted 6 = .ok (.getfield 24, 3) := by decide +kernel
theorem dX12_wrongNoted_9 : decode cX12_wrongNoted 9 = .ok (.aload_n 0, 1) := by decide +kernel
theorem dX12_wrongNoted_10 : decode cX12_wrongNoted 10 = .ok (.getfield 80, 3) := by decide +kernel
theorem dX12_wrongNoted_13 : decode cX12_wrongNoted 13 = .ok (.iaload, 1) := by decide +kernel
theorem dX12_wrongNoted_14 : decode cX12_wrongNoted 14 = .ok (.if_icmp .ge 44, 3) := by decide +kernel
theorem dX12_wrongNoted_17 : decode cX12_wrongNoted 17 = .ok (.iload_n 1, 1) := by decide +kernel
theorem dX12_wrongNoted_18 : decode cX12_wrongNoted 18 = .ok (.aload_n 0, 1) := by decide +kernel
theorem dX12_wrongNoted_19 : decode cX12_wrongNoted 19 = .ok (.getfield 52, 3) := by decide +kernel
theorem dX12_wrongNoted_22 : decode cX12_wrongNoted 22 = .ok (.iload_n 2, 1) := by decide +kernel
theorem dX12_wrongNoted_23 : decode cX12_wrongNoted 23 = .ok (.iaload, 1) := by decide +kernel
theorem dX12_wrongNoted_24 : decode cX12_wrongNoted 24 = .ok (.ifCond .lt 25, 3) := by decide +kernel
theorem dX12_wrongNoted_27 : decode cX12_wrongNoted 27 = .ok (.aload_n 0, 1) := by decide +kernel
theorem dX12_wrongNoted_28 : decode cX12_wrongNoted 28 = .ok (.getfield 52, 3) := by decide +kernel
theorem dX12_wrongNoted_31 : decode cX12_wrongNoted 31 = .ok (.iload_n 2, 1) := by decide +kernel
theorem dX12_wrongNoted_32 : decode cX12_wrongNoted 32 = .ok (.iaload, 1) := by decide +kernel
theorem dX12_wrongNoted_33 : decode cX12_wrongNoted 33 = .ok (.aload_n 0, 1) := by decide +kernel
theorem dX12_wrongNoted_34 : decode cX12_wrongNoted 34 = .ok (.aload_n 0, 1) := by decide +kernel
theorem dX12_wrongNoted_35 : decode cX12_wrongNoted 35 = .ok (.getfield 80, 3) := by decide +kernel
theorem dX12_wrongNoted_38 : decode cX12_wrongNoted 38 = .ok (.iload_n 2, 1) := by decide +kernel
theorem dX12_wrongNoted_39 : decode cX12_wrongNoted 39 = .ok (.invokevirtual 136, 3) := by decide +kernel
theorem dX12_wrongNoted_42 : decode cX12_wrongNoted 42 = .ok (.if_icmp .eq 7, 3) := by decide +kernel
theorem dX12_wrongNoted_45 : decode cX12_wrongNoted 45 = .ok (.iconst 1, 1) := by decide +kernel
theorem dX12_wrongNoted_46 : decode cX12_wrongNoted 46 = .ok (.goto 4, 3) := by decide +kernel
theorem dX12_wrongNoted_49 : decode cX12_wrongNoted 49 = .ok (.iconst 0, 1) := by decide +kernel
theorem dX12_wrongNoted_50 : decode cX12_wrongNoted 50 = .ok (.iadd, 1) := by decide +kernel
theorem dX12_wrongNoted_51 : decode cX12_wrongNoted 51 = .ok (.istore_n 1, 1) := by decide +kernel
theorem dX12_wrongNoted_52 : decode cX12_wrongNoted 52 = .ok (.iinc 2 1, 3) := by decide +kernel
theorem dX12_wrongNoted_55 : decode cX12_wrongNoted 55 = .ok (.goto (-51), 3) := by decide +kernel
theorem dX12_wrongNoted_58 : decode cX12_wrongNoted 58 = .ok (.iload_n 1, 1) := by decide +kernel
theorem dX12_wrongNoted_59 : decode cX12_wrongNoted 59 = .ok (.ireturn, 1) := by decide +kernel
def f_X12_wrongNoted_b49 (k4 : St → Int32 → Int32 → Option (Int32 × St)) (σ : St) (x2 : Int32) (s0 : Int32) : Option (Int32 × St) := bnd (s0 + (0 : Int32)) (fun v12 => bnd (x2 + 1) (fun v13 => k4 σ v12 v13))
def f_X12_wrongNoted_b4 : Nat → St → Int32 → Int32 → Option (Int32 × St)
  | 0, _, _, _ => none
  | n + 1, σ, x1, x2 => chk (σ.1 623 0 < 0 ∨ 10 ≤ (σ.1 623 0).toNatClampNeg) (if σ.2.2.1 607 0 (σ.1 623 0).toNatClampNeg ≤ x2 then (some (x1, σ)) else (chk (x2 < 0 ∨ 6 ≤ x2.toNatClampNeg) (if σ.2.2.1 627 0 x2.toNatClampNeg < 0 then (f_X12_wrongNoted_b49 (f_X12_wrongNoted_b4 n) σ x2 x1) else (chk (x2 < 0 ∨ 6 ≤ x2.toNatClampNeg) (bnd2 (f_X12_at1 σ (σ.1 623 0) x2) (fun r7 σ8 => if σ.2.2.1 627 0 x2.toNatClampNeg = r7 then (f_X12_wrongNoted_b49 (f_X12_wrongNoted_b4 n) σ8 x2 x1) else (bnd (x1 + (1 : Int32)) (fun v10 => bnd (x2 + 1) (fun v11 => f_X12_wrongNoted_b4 n σ8 v10 v11)))))))))
def f_X12_wrongNoted (σ : St) : Option (Int32 × St) := f_X12_wrongNoted_b4 256 σ (0 : Int32) (0 : Int32)
set_option maxHeartbeats 4000000 in
set_option maxRecDepth 100000 in
theorem w_X12_wrongNoted_b49 {p : Program} {l : Launch} {e : Env} {s : State} {m : MethodId} {args : Array Value} {below : List Frame} {meth : Method} {c : Code} {g : va_G} {ts : ClassId × ClassId × ClassId} {A : Nat → Prop} {Q : State → Prop} {a : Nat → Nat} {r : Int32} {σ' : St} {k4 : St → Int32 → Int32 → Option (Int32 × St)} (C : FX p s m args meth c RX12 cX12_wrongNoted 3 g ts A) (hQ : RetI p l e (rk 1 22) s m args below meth c cX12_wrongNoted g (WM ts a) A r σ' Q) (hk4 : ∀ (σ : St) (x1 : Int32) (x2 : Int32) (H : Heap) (locs : List Loc) (ls : Array Slot), k4 σ x1 x2 = some (r, σ') → va_P g classes (WM ts a σ) H → va_D A (WM ts a σ) → va_S A s.heap H locs → lv_has ls 3 [(0, .ref (a 0)), (1, .int x1), (2, .int x2)] → W p l e (rk 1 22) s m args below meth c H locs 0 0 Q (F0 m 4 ls [])) : ∀ (σ : St) (x2 : Int32) (s0 : Int32) (H : Heap) (locs : List Loc) (ls : Array Slot), f_X12_wrongNoted_b49 k4 σ x2 s0 = some (r, σ') → va_P g classes (WM ts a σ) H → va_D A (WM ts a σ) → va_S A s.heap H locs → lv_has ls 3 [(0, .ref (a 0)), (2, .int x2)] → W p l e (rk 1 22) s m args below meth c H locs 0 0 Q (F0 m 49 ls [.int s0]) := by
  have hx := C.1
  have hb := C.2.1
  have hown := C.2.2.2.1
  have hts := C.2.2.2.2.1
  intro σ x2 s0 H locs ls hf hP hD hS hl
  rw [f_X12_wrongNoted_b49] at hf
  refine lv_iconst (v := 0) hx hb dX12_wrongNoted_49 (by decide) ?_
  refine lv_iadd hx hb dX12_wrongNoted_50 ?_
  refine lv_topi (fun v12 ev12 => ?_)
  replace hf := bnd_at ev12 hf
  refine lv_istore_n (lv' := [(1, .int v12), (0, .ref (a 0)), (2, .int x2)]) hx hb dX12_wrongNoted_51 rfl hl (by decide) rfl (fun ls hl => ?_)
  obtain ⟨v13, ev13⟩ : ∃ z : Int32, z = x2 + 1 := ⟨_, rfl⟩
  replace hf := bnd_at ev13 hf
  refine lv_iinc (v := v13) (lv' := [(2, .int v13), (1, .int v12), (0, .ref (a 0))]) hx hb dX12_wrongNoted_52 hl (k := 2) rfl (by rw [ev13]; rfl) (by decide) rfl (fun ls hl => ?_)
  refine lv_goto (tgt := 4) hx hb dX12_wrongNoted_55 (by decide) ?_
  exact hk4 _ _ _ _ _ _ hf hP hD hS (lv_sub hl [2, 1, 0] rfl)
set_option maxHeartbeats 4000000 in
set_option maxRecDepth 100000 in
theorem w_X12_wrongNoted_b4 {p : Program} {l : Launch} {e : Env} {s : State} {m : MethodId} {args : Array Value} {below : List Frame} {meth : Method} {c : Code} {g : va_G} {ts : ClassId × ClassId × ClassId} {A : Nat → Prop} {Q : State → Prop} {a : Nat → Nat} {r : Int32} {σ' : St} (C : FX p s m args meth c RX12 cX12_wrongNoted 3 g ts A) (hQ : RetI p l e (rk 1 22) s m args below meth c cX12_wrongNoted g (WM ts a) A r σ' Q) : ∀ (n : Nat) (σ : St) (x1 : Int32) (x2 : Int32) (H : Heap) (locs : List Loc) (ls : Array Slot), f_X12_wrongNoted_b4 n σ x1 x2 = some (r, σ') → va_P g classes (WM ts a σ) H → va_D A (WM ts a σ) → va_S A s.heap H locs → lv_has ls 3 [(0, .ref (a 0)), (1, .int x1), (2, .int x2)] → W p l e (rk 1 22) s m args below meth c H locs 0 0 Q (F0 m 4 ls []) := by
  have hx := C.1
  have hb := C.2.1
  have hown := C.2.2.2.1
  have hts := C.2.2.2.2.1
  intro n
  induction n with
  | zero =>
    intro σ x1 x2 H locs ls hf
    cases hf
  | succ n ih =>
    intro σ x1 x2 H locs ls hf hP hD hS hl
    rw [f_X12_wrongNoted_b4] at hf
    refine lv_iload_n hx hb dX12_wrongNoted_4 rfl (lv_at hl 2 rfl) ?_
    refine lv_aload_n hx hb dX12_wrongNoted_5 rfl (lv_at hl 0 rfl) ?_
    refine G_X12_longs C hP q_1079 dX12_wrongNoted_6 ?_
    refine lv_aload_n hx hb dX12_wrongNoted_9 rfl (lv_at hl 0 rfl) ?_
    refine G_X12_onName C hP q_1095 dX12_wrongNoted_10 ?_
    obtain ⟨h1, hf⟩ := chk_some hf
    refine AL_X12_longs C hP h1 dX12_wrongNoted_13 ?_
    refine lv_icmp_ge (tgt := 58) hx hb dX12_wrongNoted_14 (by decide) (fun c2 => ?_) (fun c2 => ?_)
    · replace hf := ipos c2 hf
      refine lv_iload_n hx hb dX12_wrongNoted_58 rfl (lv_at hl 1 rfl) ?_
      exact retI hQ hf dX12_wrongNoted_59 hP hD hS
    · replace hf := ineg c2 hf
      refine lv_iload_n hx hb dX12_wrongNoted_17 rfl (lv_at hl 1 rfl) ?_
      refine lv_aload_n hx hb dX12_wrongNoted_18 rfl (lv_at hl 0 rfl) ?_
      refine G_X12_notedAs C hP q_1099 dX12_wrongNoted_19 ?_
      refine lv_iload_n hx hb dX12_wrongNoted_22 rfl (lv_at hl 2 rfl) ?_
      obtain ⟨h3, hf⟩ := chk_some hf
      refine AL_X12_notedAs C hP h3 dX12_wrongNoted_23 ?_
      refine lv_if_lt (tgt := 49) hx hb dX12_wrongNoted_24 (by decide) (fun c4 => ?_) (fun c4 => ?_)
      · replace hf := ipos c4 hf
        exact w_X12_wrongNoted_b49 C hQ ih _ _ _ _ _ _ hf hP hD hS (lv_sub hl [0, 2] rfl)
      · replace hf := ineg c4 hf
        refine lv_aload_n hx hb dX12_wrongNoted_27 rfl (lv_at hl 0 rfl) ?_
        refine G_X12_notedAs C hP q_1099 dX12_wrongNoted_28 ?_
        refine lv_iload_n hx hb dX12_wrongNoted_31 rfl (lv_at hl 2 rfl) ?_
        obtain ⟨h5, hf⟩ := chk_some hf
        refine AL_X12_notedAs C hP h5 dX12_wrongNoted_32 ?_
        refine lv_aload_n hx hb dX12_wrongNoted_33 rfl (lv_at hl 0 rfl) ?_
        refine lv_aload_n hx hb dX12_wrongNoted_34 rfl (lv_at hl 0 rfl) ?_
        refine G_X12_onName C hP q_1095 dX12_wrongNoted_35 ?_
        refine lv_iload_n hx hb dX12_wrongNoted_38 rfl (lv_at hl 2 rfl) ?_
        obtain ⟨r7, σ8, h6, hf⟩ := bnd2_some hf
        refine vI [.int (σ.2.2.1 627 0 x2.toNatClampNeg), .int x1] C hP hD hS (c_X12_at1 h6) mv_X12_at1 q_1266 rv_X12 dX12_wrongNoted_39 ⟨Nat.le_of_ble_eq_true rfl, Nat.le_of_ble_eq_true rfl⟩ ⟨Nat.zero_le _, Nat.zero_le _⟩ rfl rfl (Nat.le_of_ble_eq_true rfl) hl.1 (fun H locs hP hD hS => ?_)
        refine lv_icmp_eq (tgt := 49) hx hb dX12_wrongNoted_42 (by decide) (fun c9 => ?_) (fun c9 => ?_)
        · replace hf := ipos c9 hf
          exact w_X12_wrongNoted_b49 C hQ ih _ _ _ _ _ _ hf hP hD hS (lv_sub hl [0, 2] rfl)
        · replace hf := ineg c9 hf
          refine lv_iconst (v := 1) hx hb dX12_wrongNoted_45 (by decide) ?_
          refine lv_goto (tgt := 50) hx hb dX12_wrongNoted_46 (by decide) ?_
          refine lv_iadd hx hb dX12_wrongNoted_50 ?_
          refine lv_topi (fun v10 ev10 => ?_)
          replace hf := bnd_at ev10 hf
          refine lv_istore_n (lv' := [(1, .int v10), (0, .ref (a 0)), (2, .int x2)]) hx hb dX12_wrongNoted_51 rfl hl (by decide) rfl (fun ls hl => ?_)
          obtain ⟨v11, ev11⟩ : ∃ z : Int32, z = x2 + 1 := ⟨_, rfl⟩
          replace hf := bnd_at ev11 hf
          refine lv_iinc (v := v11) (lv' := [(2, .int v11), (1, .int v10), (0, .ref (a 0))]) hx hb dX12_wrongNoted_52 hl (k := 2) rfl (by rw [ev11]; rfl) (by decide) rfl (fun ls hl => ?_)
          refine lv_goto (tgt := 4) hx hb dX12_wrongNoted_55 (by decide) ?_
          exact ih _ _ _ _ _ _ hf hP hD hS (lv_sub hl [2, 1, 0] rfl)
set_option maxHeartbeats 4000000 in
set_option maxRecDepth 100000 in
theorem c_X12_wrongNoted {l : Launch} {g : va_G} {ts : ClassId × ClassId × ClassId} {a : Nat → Nat} {σ : St} {r : Int32} {σ' : St} (hf : f_X12_wrongNoted σ = some (r, σ')) : ConI l g ts (WM ts a) yX12_wrongNoted cX12_wrongNoted 3 (some .int) (rk 1 22) σ [.ref (a 0)] r σ' := by
  refine ConI_mk .int rfl rfl rfl rfl (by decide) (Nat.le_of_ble_eq_true rfl) ?_
  intro p e s m below meth c A Q ls C hQ hP hD hS hl
  have C : FX p s m _ meth c RX12 cX12_wrongNoted 3 g ts A := C
  have hx := C.1
  have hb := C.2.1
  have hown := C.2.2.2.1
  have hts := C.2.2.2.2.1
  have hl : lv_has ls 3 [(0, .ref (a 0))] := hl
  rw [f_X12_wrongNoted] at hf
  refine lv_iconst (v := 0) hx hb dX12_wrongNoted_0 (by decide) ?_
  refine lv_istore_n (lv' := [(1, .int (0 : Int32)), (0, .ref (a 0))]) hx hb dX12_wrongNoted_1 rfl hl (by decide) rfl (fun ls hl => ?_)
  refine lv_iconst (v := 0) hx hb dX12_wrongNoted_2 (by decide) ?_
  refine lv_istore_n (lv' := [(2, .int (0 : Int32)), (1, .int (0 : Int32)), (0, .ref (a 0))]) hx hb dX12_wrongNoted_3 rfl hl (by decide) rfl (fun ls hl => ?_)
  exact w_X12_wrongNoted_b4 C hQ 256 _ _ _ _ _ _ hf hP hD hS (lv_sub hl [2, 1, 0] rfl)
theorem dX12_hang_0 : decode cX12_hang 0 = .ok (.aload_n 0, 1) := by decide +kernel
theorem dX12_hang_1 : decode cX12_hang 1 = .ok (.getfield 80, 3) := by decide +kernel
theorem dX12_hang_4 : decode cX12_hang 4 = .ok (.ifCond .ge 6, 3) := by decide +kernel
theorem dX12_hang_7 : decode cX12_hang 7 = .ok (.bipush (-5), 2) := by decide +kernel
theorem dX12_hang_9 : decode cX12_hang 9 = .ok (.ireturn, 1) := by decide +kernel
theorem dX12_hang_10 : decode cX12_hang 10 = .ok (.iconst 1, 1) := by decide +kernel
theorem dX12_hang_11 : decode cX12_hang 11 = .ok (.istore_n 1, 1) := by decide +kernel
theorem dX12_hang_12 : decode cX12_hang 12 = .ok (.iconst 0, 1) := by decide +kernel
theorem dX12_hang_13 : decode cX12_hang 13 = .ok (.istore_n 2, 1) := by decide +kernel
theorem dX12_hang_14 : decode cX12_hang 14 = .ok (.iload_n 2, 1) := by decide +kernel
theorem dX12_hang_15 : decode cX12_hang 15 = .ok (.aload_n 0, 1) := by decide +kernel
theorem dX12_hang_16 : decode cX12_hang 16 = .ok (.getfield 24, 3) := by decide +kernel
theorem dX12_hang_19 : decode cX12_hang 19 = .ok (.aload_n 0, 1) := by decide +kernel
theorem dX12_hang_20 : decode cX12_hang 20 = .ok (.getfield 80, 3) := by decide +kernel
theorem dX12_hang_23 : decode cX12_hang 23 = .ok (.iaload, 1) := by decide +kernel
theorem dX12_hang_24 : decode cX12_hang 24 = .ok (.if_icmp .ge 33, 3) := by decide +kernel
theorem dX12_hang_27 : decode cX12_hang 27 = .ok (.aload_n 0, 1) := by decide +kernel
theorem dX12_hang_28 : decode cX12_hang 28 = .ok (.getfield 52, 3) := by decide +kernel
theorem dX12_hang_31 : decode cX12_hang 31 = .ok (.iload_n 2, 1) := by decide +kernel
theorem dX12_hang_32 : decode cX12_hang 32 = .ok (.iaload, 1) := by decide +kernel
theorem dX12_hang_33 : decode cX12_hang 33 = .ok (.aload_n 0, 1) := by decide +kernel
theorem dX12_hang_34 : decode cX12_hang 34 = .ok (.aload_n 0, 1) := by decide +kernel
theorem dX12_hang_35 : decode cX12_hang 35 = .ok (.getfield 80, 3) := by decide +kernel
theorem dX12_hang_38 : decode cX12_hang 38 = .ok (.iload_n 2, 1) := by decide +kernel
theorem dX12_hang_39 : decode cX12_hang 39 = .ok (.invokevirtual 136, 3) := by decide +kernel
theorem dX12_hang_42 : decode cX12_hang 42 = .ok (.if_icmp .ne 7, 3) := by decide +kernel
theorem dX12_hang_45 : decode cX12_hang 45 = .ok (.iload_n 1, 1) := by decide +kernel
theorem dX12_hang_46 : decode cX12_hang 46 = .ok (.goto 4, 3) := by decide +kernel
theorem dX12_hang_49 : decode cX12_hang 49 = .ok (.iconst 0, 1) := by decide +kernel
theorem dX12_hang_50 : decode cX12_hang 50 = .ok (.istore_n 1, 1) := by decide +kernel
theorem dX12_hang_51 : decode cX12_hang 51 = .ok (.iinc 2 1, 3) := by decide +kernel
theorem dX12_hang_54 : decode cX12_hang 54 = .ok (.goto (-40), 3) := by decide +kernel
theorem dX12_hang_57 : decode cX12_hang 57 = .ok (.aload_n 0, 1) := by decide +kernel
theorem dX12_hang_58 : decode cX12_hang 58 = .ok (.iconst (-1), 1) := by decide +kernel
theorem dX12_hang_59 : decode cX12_hang 59 = .ok (.putfield 80, 3) := by decide +kernel
theorem dX12_hang_62 : decode cX12_hang 62 = .ok (.aload_n 0, 1) := by decide +kernel
theorem dX12_hang_63 : decode cX12_hang 63 = .ok (.dup, 1) := by decide +kernel
theorem dX12_hang_64 : decode cX12_hang 64 = .ok (.getfield 292, 3) := by decide +kernel
theorem dX12_hang_67 : decode cX12_hang 67 = .ok (.iconst 1, 1) := by decide +kernel
theorem dX12_hang_68 : decode cX12_hang 68 = .ok (.iadd, 1) := by decide +kernel
theorem dX12_hang_69 : decode cX12_hang 69 = .ok (.putfield 292, 3) := by decide +kernel
theorem dX12_hang_72 : decode cX12_hang 72 = .ok (.aload_n 0, 1) := by decide +kernel
theorem dX12_hang_73 : decode cX12_hang 73 = .ok (.dup, 1) := by decide +kernel
theorem dX12_hang_74 : decode cX12_hang 74 = .ok (.getfield 295, 3) := by decide +kernel
theorem dX12_hang_77 : decode cX12_hang 77 = .ok (.iload_n 1, 1) := by decide +kernel
theorem dX12_hang_78 : decode cX12_hang 78 = .ok (.iadd, 1) := by decide +kernel
theorem dX12_hang_79 : decode cX12_hang 79 = .ok (.putfield 295, 3) := by decide +kernel
theorem dX12_hang_82 : decode cX12_hang 82 = .ok (.iload_n 1, 1) := by decide +kernel
theorem dX12_hang_83 : decode cX12_hang 83 = .ok (.ireturn, 1) := by decide +kernel
def f_X12_hang_b14 : Nat → St → Int32 → Int32 → Option (Int32 × St)
  | 0, _, _, _ => none
  | n + 1, σ, x1, x2 => chk (σ.1 623 0 < 0 ∨ 10 ≤ (σ.1 623 0).toNatClampNeg) (if σ.2.2.1 607 0 (σ.1 623 0).toNatClampNeg ≤ x2 then (bnd (sI (sI σ 623 0 (-1 : Int32)) 628 0 (((sI σ 623 0 (-1 : Int32)).1 628 0) + (1 : Int32))) (fun σ4 => some (x1, sI σ4 629 0 ((σ4.1 629 0) + x1)))) else (chk (x2 < 0 ∨ 6 ≤ x2.toNatClampNeg) (bnd2 (f_X12_at1 σ (σ.1 623 0) x2) (fun r7 σ8 => if σ.2.2.1 627 0 x2.toNatClampNeg = r7 then (bnd (x2 + 1) (fun v11 => f_X12_hang_b14 n σ8 x1 v11)) else (bnd (x2 + 1) (fun v10 => f_X12_hang_b14 n σ8 (0 : Int32) v10))))))
def f_X12_hang (σ : St) : Option (Int32 × St) := if 0 ≤ σ.1 623 0 then (f_X12_hang_b14 256 σ (1 : Int32) (0 : Int32)) else (some ((-5 : Int32), σ))
set_option maxHeartbeats 4000000 in
set_option maxRecDepth 100000 in
theorem w_X12_hang_b14 {p : Program} {l : Launch} {e : Env} {s : State} {m : MethodId} {args : Array Value} {below : List Frame} {meth : Method} {c : Code} {g : va_G} {ts : ClassId × ClassId × ClassId} {A : Nat → Prop} {Q : State → Prop} {a : Nat → Nat} {r : Int32} {σ' : St} (C : FX p s m args meth c RX12 cX12_hang 3 g ts A) (hQ : RetI p l e (rk 1 22) s m args below meth c cX12_hang g (WM ts a) A r σ' Q) : ∀ (n : Nat) (σ : St) (x1 : Int32) (x2 : Int32) (H : Heap) (locs : List Loc) (ls : Array Slot), f_X12_hang_b14 n σ x1 x2 = some (r, σ') → va_P g classes (WM ts a σ) H → va_D A (WM ts a σ) → va_S A s.heap H locs → lv_has ls 3 [(0, .ref (a 0)), (1, .int x1), (2, .int x2)] → W p l e (rk 1 22) s m args below meth c H locs 0 0 Q (F0 m 14 ls []) := by
  have hx := C.1
  have hb := C.2.1
  have hown := C.2.2.2.1
  have hts := C.2.2.2.2.1
  intro n
  induction n with
  | zero =>
    intro σ x1 x2 H locs ls hf
    cases hf
  | succ n ih =>
    intro σ x1 x2 H locs ls hf hP hD hS hl
    rw [f_X12_hang_b14] at hf
    refine lv_iload_n hx hb dX12_hang_14 rfl (lv_at hl 2 rfl) ?_
    refine lv_aload_n hx hb dX12_hang_15 rfl (lv_at hl 0 rfl) ?_
    refine G_X12_longs C hP q_1079 dX12_hang_16 ?_
    refine lv_aload_n hx hb dX12_hang_19 rfl (lv_at hl 0 rfl) ?_
    refine G_X12_onName C hP q_1095 dX12_hang_20 ?_
    obtain ⟨h2, hf⟩ := chk_some hf
    refine AL_X12_longs C hP h2 dX12_hang_23 ?_
    refine lv_icmp_ge (tgt := 57) hx hb dX12_hang_24 (by decide) (fun c3 => ?_) (fun c3 => ?_)
    · replace hf := ipos c3 hf
      refine lv_aload_n hx hb dX12_hang_57 rfl (lv_at hl 0 rfl) ?_
      refine lv_iconst (v := -1) hx hb dX12_hang_58 (by decide) ?_
      refine S_X12_onName C hP hD hS q_1095 dX12_hang_59 (fun H locs hP hD hS => ?_)
      refine lv_aload_n hx hb dX12_hang_62 rfl (lv_at hl 0 rfl) ?_
      refine lv_dup hx hb dX12_hang_63 rfl ?_
      refine G_X12_ledCalls C hP q_1100 dX12_hang_64 ?_
      refine lv_iconst (v := 1) hx hb dX12_hang_67 (by decide) ?_
      refine lv_iadd hx hb dX12_hang_68 ?_
      refine S_X12_ledCalls C hP hD hS q_1100 dX12_hang_69 (fun H locs hP hD hS => ?_)
      refine nameS hP hD hf (fun σ4 hP hD hf => ?_)
      refine lv_aload_n hx hb dX12_hang_72 rfl (lv_at hl 0 rfl) ?_
      refine lv_dup hx hb dX12_hang_73 rfl ?_
      refine G_X12_ledRight C hP q_1101 dX12_hang_74 ?_
      refine lv_iload_n hx hb dX12_hang_77 rfl (lv_at hl 1 rfl) ?_
      refine lv_iadd hx hb dX12_hang_78 ?_
      refine S_X12_ledRight C hP hD hS q_1101 dX12_hang_79 (fun H locs hP hD hS => ?_)
      refine lv_iload_n hx hb dX12_hang_82 rfl (lv_at hl 1 rfl) ?_
      exact retI hQ hf dX12_hang_83 hP hD hS
    · replace hf := ineg c3 hf
      refine lv_aload_n hx hb dX12_hang_27 rfl (lv_at hl 0 rfl) ?_
      refine G_X12_notedAs C hP q_1099 dX12_hang_28 ?_
      refine lv_iload_n hx hb dX12_hang_31 rfl (lv_at hl 2 rfl) ?_
      obtain ⟨h5, hf⟩ := chk_some hf
      refine AL_X12_notedAs C hP h5 dX12_hang_32 ?_
      refine lv_aload_n hx hb dX12_hang_33 rfl (lv_at hl 0 rfl) ?_
      refine lv_aload_n hx hb dX12_hang_34 rfl (lv_at hl 0 rfl) ?_
      refine G_X12_onName C hP q_1095 dX12_hang_35 ?_
      refine lv_iload_n hx hb dX12_hang_38 rfl (lv_at hl 2 rfl) ?_
      obtain ⟨r7, σ8, h6, hf⟩ := bnd2_some hf
      refine vI [.int (σ.2.2.1 627 0 x2.toNatClampNeg)] C hP hD hS (c_X12_at1 h6) mv_X12_at1 q_1266 rv_X12 dX12_hang_39 ⟨Nat.le_of_ble_eq_true rfl, Nat.le_of_ble_eq_true rfl⟩ ⟨Nat.zero_le _, Nat.zero_le _⟩ rfl rfl (Nat.le_of_ble_eq_true rfl) hl.1 (fun H locs hP hD hS => ?_)
      refine lv_icmp_ne (tgt := 49) hx hb dX12_hang_42 (by decide) (fun c9 => ?_) (fun c9 => ?_)
      · replace hf := ineg c9 hf
        refine lv_iconst (v := 0) hx hb dX12_hang_49 (by decide) ?_
        refine lv_istore_n (lv' := [(1, .int (0 : Int32)), (0, .ref (a 0)), (2, .int x2)]) hx hb dX12_hang_50 rfl hl (by decide) rfl (fun ls hl => ?_)
        obtain ⟨v10, ev10⟩ : ∃ z : Int32, z = x2 + 1 := ⟨_, rfl⟩
        replace hf := bnd_at ev10 hf
        refine lv_iinc (v := v10) (lv' := [(2, .int v10), (1, .int (0 : Int32)), (0, .ref (a 0))]) hx hb dX12_hang_51 hl (k := 2) rfl (by rw [ev10]; rfl) (by decide) rfl (fun ls hl => ?_)
        refine lv_goto (tgt := 14) hx hb dX12_hang_54 (by decide) ?_
        exact ih _ _ _ _ _ _ hf hP hD hS (lv_sub hl [2, 1, 0] rfl)
      · replace hf := ipos c9 hf
        refine lv_iload_n hx hb dX12_hang_45 rfl (lv_at hl 1 rfl) ?_
        refine lv_goto (tgt := 50) hx hb dX12_hang_46 (by decide) ?_
        refine lv_istore_n (lv' := [(1, .int x1), (0, .ref (a 0)), (2, .int x2)]) hx hb dX12_hang_50 rfl hl (by decide) rfl (fun ls hl => ?_)
        obtain ⟨v11, ev11⟩ : ∃ z : Int32, z = x2 + 1 := ⟨_, rfl⟩
        replace hf := bnd_at ev11 hf
        refine lv_iinc (v := v11) (lv' := [(2, .int v11), (1, .int x1), (0, .ref (a 0))]) hx hb dX12_hang_51 hl (k := 2) rfl (by rw [ev11]; rfl) (by decide) rfl (fun ls hl => ?_)
        refine lv_goto (tgt := 14) hx hb dX12_hang_54 (by decide) ?_
        exact ih _ _ _ _ _ _ hf hP hD hS (lv_sub hl [2, 1, 0] rfl)
set_option maxHeartbeats 4000000 in
set_option maxRecDepth 100000 in
theorem c_X12_hang {l : Launch} {g : va_G} {ts : ClassId × ClassId × ClassId} {a : Nat → Nat} {σ : St} {r : Int32} {σ' : St} (hf : f_X12_hang σ = some (r, σ')) : ConI l g ts (WM ts a) yX12_hang cX12_hang 3 (some .int) (rk 1 22) σ [.ref (a 0)] r σ' := by
  refine ConI_mk .int rfl rfl rfl rfl (by decide) (Nat.le_of_ble_eq_true rfl) ?_
  intro p e s m below meth c A Q ls C hQ hP hD hS hl
  have C : FX p s m _ meth c RX12 cX12_hang 3 g ts A := C
  have hx := C.1
  have hb := C.2.1
  have hown := C.2.2.2.1
  have hts := C.2.2.2.2.1
  have hl : lv_has ls 3 [(0, .ref (a 0))] := hl
  rw [f_X12_hang] at hf
  refine lv_aload_n hx hb dX12_hang_0 rfl (lv_at hl 0 rfl) ?_
  refine G_X12_onName C hP q_1095 dX12_hang_1 ?_
  refine lv_if_ge (tgt := 10) hx hb dX12_hang_4 (by decide) (fun c1 => ?_) (fun c1 => ?_)
  · replace hf := ipos c1 hf
    refine lv_iconst (v := 1) hx hb dX12_hang_10 (by decide) ?_
    refine lv_istore_n (lv' := [(1, .int (1 : Int32)), (0, .ref (a 0))]) hx hb dX12_hang_11 rfl hl (by decide) rfl (fun ls hl => ?_)
    refine lv_iconst (v := 0) hx hb dX12_hang_12 (by decide) ?_
    refine lv_istore_n (lv' := [(2, .int (0 : Int32)), (1, .int (1 : Int32)), (0, .ref (a 0))]) hx hb dX12_hang_13 rfl hl (by decide) rfl (fun ls hl => ?_)
    exact w_X12_hang_b14 C hQ 256 _ _ _ _ _ _ hf hP hD hS (lv_sub hl [2, 1, 0] rfl)
  · replace hf := ineg c1 hf
    refine lv_bipush (v := -5) hx hb dX12_hang_7 (by decide) ?_
    exact retI hQ hf dX12_hang_9 hP hD hS
theorem dX12_led_0 : decode cX12_led 0 = .ok (.iload_n 1, 1) := by decide +kernel
theorem dX12_led_1 : decode cX12_led 1 = .ok (.tableswitch 82 0 4 #[35, 40, 45, 50, 66], 35) := by decide +kernel
theorem dX12_led_36 : decode cX12_led 36 = .ok (.aload_n 0, 1) := by decide +kernel
theorem dX12_led_37 : decode cX12_led 37 = .ok (.getfield 292, 3) := by decide +kernel
theorem dX12_led_40 : decode cX12_led 40 = .ok (.ireturn, 1) := by decide +kernel
theorem dX12_led_41 : decode cX12_led 41 = .ok (.aload_n 0, 1) := by decide +kernel
theorem dX12_led_42 : decode cX12_led 42 = .ok (.getfield 295, 3) := by decide +kernel
theorem dX12_led_45 : decode cX12_led 45 = .ok (.ireturn, 1) := by decide +kernel
theorem dX12_led_46 : decode cX12_led 46 = .ok (.aload_n 0, 1) := by decide +kernel
theorem dX12_led_47 : decode cX12_led 47 = .ok (.getfield 289, 3) := by decide +kernel
theorem dX12_led_50 : decode cX12_led 50 = .ok (.ireturn, 1) := by decide +kernel
theorem dX12_led_51 : decode cX12_led 51 = .ok (.aload_n 0, 1) := by decide +kernel
theorem dX12_led_52 : decode cX12_led 52 = .ok (.getfield 80, 3) := by decide +kernel
theorem dX12_led_55 : decode cX12_led 55 = .ok (.ifCond .ge 7, 3) := by decide +kernel
theorem dX12_led_58 : decode cX12_led 58 = .ok (.iconst 0, 1) := by decide +kernel
theorem dX12_led_59 : decode cX12_led 59 = .ok (.goto 7, 3) := by decide +kernel
theorem dX12_led_62 : decode cX12_led 62 = .ok (.aload_n 0, 1) := by decide +kernel
theorem dX12_led_63 : decode cX12_led 63 = .ok (.getfield 284, 3) := by decide +kernel
theorem dX12_led_66 : decode cX12_led 66 = .ok (.ireturn, 1) := by decide +kernel
theorem dX12_led_67 : decode cX12_led 67 = .ok (.aload_n 0, 1) := by decide +kernel
theorem dX12_led_68 : decode cX12_led 68 = .ok (.getfield 80, 3) := by decide +kernel
theorem dX12_led_71 : decode cX12_led 71 = .ok (.ifCond .ge 7, 3) := by decide +kernel
theorem dX12_led_74 : decode cX12_led 74 = .ok (.iconst 0, 1) := by decide +kernel
theorem dX12_led_75 : decode cX12_led 75 = .ok (.goto 7, 3) := by decide +kernel
theorem dX12_led_78 : decode cX12_led 78 = .ok (.aload_n 0, 1) := by decide +kernel
theorem dX12_led_79 : decode cX12_led 79 = .ok (.invokevirtual 298, 3) := by decide +kernel
theorem dX12_led_82 : decode cX12_led 82 = .ok (.ireturn, 1) := by decide +kernel
theorem dX12_led_83 : decode cX12_led 83 = .ok (.iconst (-1), 1) := by decide +kernel
theorem dX12_led_84 : decode cX12_led 84 = .ok (.ireturn, 1) := by decide +kernel
def f_X12_led (σ : St) (p1 : Int32) : Option (Int32 × St) := if p1 = 0 then (some (σ.1 628 0, σ)) else (if p1 = 1 then (some (σ.1 629 0, σ)) else (if p1 = 2 then (some (σ.1 630 0, σ)) else (if p1 = 3 then (if 0 ≤ σ.1 623 0 then (some (σ.1 625 0, σ)) else (some ((0 : Int32), σ))) else (if p1 = 4 then (if 0 ≤ σ.1 623 0 then (bnd2 (f_X12_wrongNoted σ) (fun r9 σ10 => some (r9, σ10))) else (some ((0 : Int32), σ))) else (some ((-1 : Int32), σ))))))
set_option maxHeartbeats 4000000 in
set_option maxRecDepth 100000 in
theorem c_X12_led {l : Launch} {g : va_G} {ts : ClassId × ClassId × ClassId} {a : Nat → Nat} {σ : St} {p1 : Int32} {r : Int32} {σ' : St} (hf : f_X12_led σ p1 = some (r, σ')) : ConI l g ts (WM ts a) yX12_led cX12_led 2 (some .int) (rk 2 44) σ [.ref (a 0), .int p1] r σ' := by
  refine ConI_mk .int rfl rfl rfl rfl (by decide) (Nat.le_of_ble_eq_true rfl) ?_
  intro p e s m below meth c A Q ls C hQ hP hD hS hl
  have C : FX p s m _ meth c RX12 cX12_led 2 g ts A := C
  have hx := C.1
  have hb := C.2.1
  have hown := C.2.2.2.1
  have hts := C.2.2.2.2.1
  have hl : lv_has ls 2 [(0, .ref (a 0)), (1, .int p1)] := hl
  rw [f_X12_led] at hf
  refine lv_iload_n hx hb dX12_led_0 rfl (lv_at hl 1 rfl) ?_
  by_cases c1 : p1 = 0
  · replace hf := ipos c1 hf
    refine lv_tableIn (off := 35) (tgt := 36) hx hb dX12_led_1 (by rw [c1]; decide) (by rw [c1]; decide) (by rw [c1]; rfl) (by decide) ?_
    refine lv_aload_n hx hb dX12_led_36 rfl (lv_at hl 0 rfl) ?_
    refine G_X12_ledCalls C hP q_1100 dX12_led_37 ?_
    exact retI hQ hf dX12_led_40 hP hD hS
  · replace hf := ineg c1 hf
    by_cases c2 : p1 = 1
    · replace hf := ipos c2 hf
      refine lv_tableIn (off := 40) (tgt := 41) hx hb dX12_led_1 (by rw [c2]; decide) (by rw [c2]; decide) (by rw [c2]; rfl) (by decide) ?_
      refine lv_aload_n hx hb dX12_led_41 rfl (lv_at hl 0 rfl) ?_
      refine G_X12_ledRight C hP q_1101 dX12_led_42 ?_
      exact retI hQ hf dX12_led_45 hP hD hS
    · replace hf := ineg c2 hf
      by_cases c3 : p1 = 2
      · replace hf := ipos c3 hf
        refine lv_tableIn (off := 45) (tgt := 46) hx hb dX12_led_1 (by rw [c3]; decide) (by rw [c3]; decide) (by rw [c3]; rfl) (by decide) ?_
        refine lv_aload_n hx hb dX12_led_46 rfl (lv_at hl 0 rfl) ?_
        refine G_X12_ledTime C hP q_1102 dX12_led_47 ?_
        exact retI hQ hf dX12_led_50 hP hD hS
      · replace hf := ineg c3 hf
        by_cases c4 : p1 = 3
        · replace hf := ipos c4 hf
          refine lv_tableIn (off := 50) (tgt := 51) hx hb dX12_led_1 (by rw [c4]; decide) (by rw [c4]; decide) (by rw [c4]; rfl) (by decide) ?_
          refine lv_aload_n hx hb dX12_led_51 rfl (lv_at hl 0 rfl) ?_
          refine G_X12_onName C hP q_1095 dX12_led_52 ?_
          refine lv_if_ge (tgt := 62) hx hb dX12_led_55 (by decide) (fun c5 => ?_) (fun c5 => ?_)
          · replace hf := ipos c5 hf
            refine lv_aload_n hx hb dX12_led_62 rfl (lv_at hl 0 rfl) ?_
            refine G_X12_onSaid C hP q_1097 dX12_led_63 ?_
            exact retI hQ hf dX12_led_66 hP hD hS
          · replace hf := ineg c5 hf
            refine lv_iconst (v := 0) hx hb dX12_led_58 (by decide) ?_
            refine lv_goto (tgt := 66) hx hb dX12_led_59 (by decide) ?_
            exact retI hQ hf dX12_led_66 hP hD hS
        · replace hf := ineg c4 hf
          by_cases c6 : p1 = 4
          · replace hf := ipos c6 hf
            refine lv_tableIn (off := 66) (tgt := 67) hx hb dX12_led_1 (by rw [c6]; decide) (by rw [c6]; decide) (by rw [c6]; rfl) (by decide) ?_
            refine lv_aload_n hx hb dX12_led_67 rfl (lv_at hl 0 rfl) ?_
            refine G_X12_onName C hP q_1095 dX12_led_68 ?_
            refine lv_if_ge (tgt := 78) hx hb dX12_led_71 (by decide) (fun c7 => ?_) (fun c7 => ?_)
            · replace hf := ipos c7 hf
              refine lv_aload_n hx hb dX12_led_78 rfl (lv_at hl 0 rfl) ?_
              obtain ⟨r9, σ10, h8, hf⟩ := bnd2_some hf
              refine vI [] C hP hD hS (c_X12_wrongNoted h8) mv_X12_wrongNoted q_1504 rv_X12 dX12_led_79 ⟨Nat.le_of_ble_eq_true rfl, Nat.le_of_ble_eq_true rfl⟩ ⟨Nat.zero_le _, Nat.zero_le _⟩ rfl rfl (Nat.le_of_ble_eq_true rfl) hl.1 (fun H locs hP hD hS => ?_)
              exact retI hQ hf dX12_led_82 hP hD hS
            · replace hf := ineg c7 hf
              refine lv_iconst (v := 0) hx hb dX12_led_74 (by decide) ?_
              refine lv_goto (tgt := 82) hx hb dX12_led_75 (by decide) ?_
              exact retI hQ hf dX12_led_82 hP hD hS
          · replace hf := ineg c6 hf
            refine lv_tableOut (tgt := 83) hx hb dX12_led_1 (by have uc1 := lv_neT c1 (a := 0) (by decide); have uc2 := lv_neT c2 (a := 1) (by decide); have uc3 := lv_neT c3 (a := 2) (by decide); have uc4 := lv_neT c4 (a := 3) (by decide); have uc6 := lv_neT c6 (a := 4) (by decide); omega) (by decide) ?_
            refine lv_iconst (v := -1) hx hb dX12_led_83 (by decide) ?_
            exact retI hQ hf dX12_led_84 hP hD hS
theorem dX12_image_0 : decode cX12_image 0 = .ok (.aload_n 0, 1) := by decide +kernel
theorem dX12_image_1 : decode cX12_image 1 = .ok (.iconst 1, 1) := by decide +kernel
theorem dX12_image_2 : decode cX12_image 2 = .ok (.putfield 301, 3) := by decide +kernel
theorem dX12_image_5 : decode cX12_image 5 = .ok (.iconst 0, 1) := by decide +kernel
theorem dX12_image_6 : decode cX12_image 6 = .ok (.istore_n 1, 1) := by decide +kernel
theorem dX12_image_7 : decode cX12_image 7 = .ok (.iload_n 1, 1) := by decide +kernel
theorem dX12_image_8 : decode cX12_image 8 = .ok (.bipush 6, 2) := by decide +kernel
theorem dX12_image_10 : decode cX12_image 10 = .ok (.if_icmp .ge 36, 3) := by decide +kernel
theorem dX12_image_13 : decode cX12_image 13 = .ok (.aload_n 0, 1) := by decide +kernel
theorem dX12_image_14 : decode cX12_image 14 = .ok (.getfield 55, 3) := by decide +kernel
theorem dX12_image_17 : decode cX12_image 17 = .ok (.iload_n 1, 1) := by decide +kernel
theorem dX12_image_18 : decode cX12_image 18 = .ok (.aload_n 0, 1) := by decide +kernel
theorem dX12_image_19 : decode cX12_image 19 = .ok (.getfield 49, 3) := by decide +kernel
theorem dX12_image_22 : decode cX12_image 22 = .ok (.iload_n 1, 1) := by decide +kernel
theorem dX12_image_23 : decode cX12_image 23 = .ok (.iaload, 1) := by decide +kernel
theorem dX12_image_24 : decode cX12_image 24 = .ok (.iastore, 1) := by decide +kernel
theorem dX12_image_25 : decode cX12_image 25 = .ok (.aload_n 0, 1) := by decide +kernel
theorem dX12_image_26 : decode cX12_image 26 = .ok (.getfield 55, 3) := by decide +kernel
theorem dX12_image_29 : decode cX12_image 29 = .ok (.bipush 6, 2) := by decide +kernel
theorem dX12_image_31 : decode cX12_image 31 = .ok (.iload_n 1, 1) := by decide +kernel
theorem dX12_image_32 : decode cX12_image 32 = .ok (.iadd, 1) := by decide +kernel
theorem dX12_image_33 : decode cX12_image 33 = .ok (.aload_n 0, 1) := by decide +kernel
theorem dX12_image_34 : decode cX12_image 34 = .ok (.getfield 52, 3) := by decide +kernel
theorem dX12_image_37 : decode cX12_image 37 = .ok (.iload_n 1, 1) := by decide +kernel
theorem dX12_image_38 : decode cX12_image 38 = .ok (.iaload, 1) := by decide +kernel
theorem dX12_image_39 : decode cX12_image 39 = .ok (.iastore, 1) := by decide +kernel
theorem dX12_image_40 : decode cX12_image 40 = .ok (.iinc 1 1, 3) := by decide +kernel
theorem dX12_image_43 : decode cX12_image 43 = .ok (.goto (-36), 3) := by decide +kernel
theorem dX12_image_46 : decode cX12_image 46 = .ok (.aload_n 0, 1) := by decide +kernel
theorem dX12_image_47 : decode cX12_image 47 = .ok (.getfield 55, 3) := by decide +kernel
theorem dX12_image_50 : decode cX12_image 50 = .ok (.bipush 12, 2) := by decide +kernel
theorem dX12_image_52 : decode cX12_image 52 = .ok (.aload_n 0, 1) := by decide +kernel
theorem dX12_image_53 : decode cX12_image 53 = .ok (.getfield 80, 3) := by decide +kernel
theorem dX12_image_56 : decode cX12_image 56 = .ok (.iastore, 1) := by decide +kernel
theorem dX12_image_57 : decode cX12_image 57 = .ok (.aload_n 0, 1) := by decide +kernel
theorem dX12_image_58 : decode cX12_image 58 = .ok (.getfield 55, 3) := by decide +kernel
theorem dX12_image_61 : decode cX12_image 61 = .ok (.bipush 13, 2) := by decide +kernel
theorem dX12_image_63 : decode cX12_image 63 = .ok (.aload_n 0, 1) := by decide +kernel
theorem dX12_image_64 : decode cX12_image 64 = .ok (.getfield 281, 3) := by decide +kernel
theorem dX12_image_67 : decode cX12_image 67 = .ok (.iastore, 1) := by decide +kernel
theorem dX12_image_68 : decode cX12_image 68 = .ok (.aload_n 0, 1) := by decide +kernel
theorem dX12_image_69 : decode cX12_image 69 = .ok (.getfield 55, 3) := by decide +kernel
theorem dX12_image_72 : decode cX12_image 72 = .ok (.bipush 14, 2) := by decide +kernel
theorem dX12_image_74 : decode cX12_image 74 = .ok (.aload_n 0, 1) := by decide +kernel
theorem dX12_image_75 : decode cX12_image 75 = .ok (.getfield 284, 3) := by decide +kernel
theorem dX12_image_78 : decode cX12_image 78 = .ok (.iastore, 1) := by decide +kernel
theorem dX12_image_79 : decode cX12_image 79 = .ok (.aload_n 0, 1) := by decide +kernel
theorem dX12_image_80 : decode cX12_image 80 = .ok (.getfield 55, 3) := by decide +kernel
theorem dX12_image_83 : decode cX12_image 83 = .ok (.bipush 15, 2) := by decide +kernel
theorem dX12_image_85 : decode cX12_image 85 = .ok (.aload_n 0, 1) := by decide +kernel
theorem dX12_image_86 : decode cX12_image 86 = .ok (.getfield 292, 3) := by decide +kernel
theorem dX12_image_89 : decode cX12_image 89 = .ok (.iastore, 1) := by decide +kernel
theorem dX12_image_90 : decode cX12_image 90 = .ok (.aload_n 0, 1) := by decide +kernel
theorem dX12_image_91 : decode cX12_image 91 = .ok (.getfield 55, 3) := by decide +kernel
theorem dX12_image_94 : decode cX12_image 94 = .ok (.bipush 16, 2) := by decide +kernel
theorem dX12_image_96 : decode cX12_image 96 = .ok (.aload_n 0, 1) := by decide +kernel
theorem dX12_image_97 : decode cX12_image 97 = .ok (.getfield 295, 3) := by decide +kernel
theorem dX12_image_100 : decode cX12_image 100 = .ok (.iastore, 1) := by decide +kernel
theorem dX12_image_101 : decode cX12_image 101 = .ok (.aload_n 0, 1) := by decide +kernel
theorem dX12_image_102 : decode cX12_image 102 = .ok (.getfield 55, 3) := by decide +kernel
theorem dX12_image_105 : decode cX12_image 105 = .ok (.bipush 17, 2) := by decide +kernel
theorem dX12_image_107 : decode cX12_image 107 = .ok (.aload_n 0, 1) := by decide +kernel
theorem dX12_image_108 : decode cX12_image 108 = .ok (.getfield 289, 3) := by decide +kernel
theorem dX12_image_111 : decode cX12_image 111 = .ok (.iastore, 1) := by decide +kernel
theorem dX12_image_112 : decode cX12_image 112 = .ok (.aload_n 0, 1) := by decide +kernel
theorem dX12_image_113 : decode cX12_image 113 = .ok (.getfield 292, 3) := by decide +kernel
theorem dX12_image_116 : decode cX12_image 116 = .ok (.ireturn, 1) := by decide +kernel
def f_X12_image_b7 : Nat → St → Int32 → Option (Int32 × St)
  | 0, _, _ => none
  | n + 1, σ, x1 => if (6 : Int32) ≤ x1 then (bnd (sA σ 632 0 (upd (σ.2.2.1 632 0) (12 : Int32).toNatClampNeg (σ.1 623 0))) (fun σ2 => bnd (sA σ2 632 0 (upd (σ2.2.2.1 632 0) (13 : Int32).toNatClampNeg (σ2.1 624 0))) (fun σ3 => bnd (sA σ3 632 0 (upd (σ3.2.2.1 632 0) (14 : Int32).toNatClampNeg (σ3.1 625 0))) (fun σ4 => bnd (sA σ4 632 0 (upd (σ4.2.2.1 632 0) (15 : Int32).toNatClampNeg (σ4.1 628 0))) (fun σ5 => bnd (sA σ5 632 0 (upd (σ5.2.2.1 632 0) (16 : Int32).toNatClampNeg (σ5.1 629 0))) (fun σ6 => bnd (sA σ6 632 0 (upd (σ6.2.2.1 632 0) (17 : Int32).toNatClampNeg (σ6.1 630 0))) (fun σ7 => some (σ7.1 628 0, σ7)))))))) else (chk (x1 < 0 ∨ 6 ≤ x1.toNatClampNeg) (chk (x1 < 0 ∨ 18 ≤ x1.toNatClampNeg) (bnd (sA σ 632 0 (upd (σ.2.2.1 632 0) x1.toNatClampNeg (σ.2.2.1 626 0 x1.toNatClampNeg))) (fun σ10 => chk (x1 < 0 ∨ 6 ≤ x1.toNatClampNeg) (chk ((6 : Int32) + x1 < 0 ∨ 18 ≤ ((6 : Int32) + x1).toNatClampNeg) (bnd (sA σ10 632 0 (upd (σ10.2.2.1 632 0) ((6 : Int32) + x1).toNatClampNeg (σ10.2.2.1 627 0 x1.toNatClampNeg))) (fun σ13 => bnd (x1 + 1) (fun v14 => f_X12_image_b7 n σ13 v14))))))))
def f_X12_image (σ : St) : Option (Int32 × St) := f_X12_image_b7 256 (sI σ 631 0 (1 : Int32)) (0 : Int32)
set_option maxHeartbeats 4000000 in
set_option maxRecDepth 100000 in
theorem w_X12_image_b7 {p : Program} {l : Launch} {e : Env} {s : State} {m : MethodId} {args : Array Value} {below : List Frame} {meth : Method} {c : Code} {g : va_G} {ts : ClassId × ClassId × ClassId} {A : Nat → Prop} {Q : State → Prop} {a : Nat → Nat} {r : Int32} {σ' : St} (C : FX p s m args meth c RX12 cX12_image 2 g ts A) (hQ : RetI p l e (rk 0 0) s m args below meth c cX12_image g (WM ts a) A r σ' Q) : ∀ (n : Nat) (σ : St) (x1 : Int32) (H : Heap) (locs : List Loc) (ls : Array Slot), f_X12_image_b7 n σ x1 = some (r, σ') → va_P g classes (WM ts a σ) H → va_D A (WM ts a σ) → va_S A s.heap H locs → lv_has ls 2 [(0, .ref (a 0)), (1, .int x1)] → W p l e (rk 0 0) s m args below meth c H locs 0 0 Q (F0 m 7 ls []) := by
  have hx := C.1
  have hb := C.2.1
  have hown := C.2.2.2.1
  have hts := C.2.2.2.2.1
  intro n
  induction n with
  | zero =>
    intro σ x1 H locs ls hf
    cases hf
  | succ n ih =>
    intro σ x1 H locs ls hf hP hD hS hl
    rw [f_X12_image_b7] at hf
    refine lv_iload_n hx hb dX12_image_7 rfl (lv_at hl 1 rfl) ?_
    refine lv_bipush (v := 6) hx hb dX12_image_8 (by decide) ?_
    refine lv_icmp_ge (tgt := 46) hx hb dX12_image_10 (by decide) (fun c1 => ?_) (fun c1 => ?_)
    · replace hf := ipos c1 hf
      refine lv_aload_n hx hb dX12_image_46 rfl (lv_at hl 0 rfl) ?_
      refine G_X12_image C hP q_1104 dX12_image_47 ?_
      refine lv_bipush (v := 12) hx hb dX12_image_50 (by decide) ?_
      refine lv_aload_n hx hb dX12_image_52 rfl (lv_at hl 0 rfl) ?_
      refine G_X12_onName C hP q_1095 dX12_image_53 ?_
      refine AS_X12_image C hP hD hS (by decide) dX12_image_56 (fun H locs hP hD hS => ?_)
      refine nameS hP hD hf (fun σ2 hP hD hf => ?_)
      refine lv_aload_n hx hb dX12_image_57 rfl (lv_at hl 0 rfl) ?_
      refine G_X12_image C hP q_1104 dX12_image_58 ?_
      refine lv_bipush (v := 13) hx hb dX12_image_61 (by decide) ?_
      refine lv_aload_n hx hb dX12_image_63 rfl (lv_at hl 0 rfl) ?_
      refine G_X12_onDraws C hP q_1096 dX12_image_64 ?_
      refine AS_X12_image C hP hD hS (by decide) dX12_image_67 (fun H locs hP hD hS => ?_)
      refine nameS hP hD hf (fun σ3 hP hD hf => ?_)
      refine lv_aload_n hx hb dX12_image_68 rfl (lv_at hl 0 rfl) ?_
      refine G_X12_image C hP q_1104 dX12_image_69 ?_
      refine lv_bipush (v := 14) hx hb dX12_image_72 (by decide) ?_
      refine lv_aload_n hx hb dX12_image_74 rfl (lv_at hl 0 rfl) ?_
      refine G_X12_onSaid C hP q_1097 dX12_image_75 ?_
      refine AS_X12_image C hP hD hS (by decide) dX12_image_78 (fun H locs hP hD hS => ?_)
      refine nameS hP hD hf (fun σ4 hP hD hf => ?_)
      refine lv_aload_n hx hb dX12_image_79 rfl (lv_at hl 0 rfl) ?_
      refine G_X12_image C hP q_1104 dX12_image_80 ?_
      refine lv_bipush (v := 15) hx hb dX12_image_83 (by decide) ?_
      refine lv_aload_n hx hb dX12_image_85 rfl (lv_at hl 0 rfl) ?_
      refine G_X12_ledCalls C hP q_1100 dX12_image_86 ?_
      refine AS_X12_image C hP hD hS (by decide) dX12_image_89 (fun H locs hP hD hS => ?_)
      refine nameS hP hD hf (fun σ5 hP hD hf => ?_)
      refine lv_aload_n hx hb dX12_image_90 rfl (lv_at hl 0 rfl) ?_
      refine G_X12_image C hP q_1104 dX12_image_91 ?_
      refine lv_bipush (v := 16) hx hb dX12_image_94 (by decide) ?_
      refine lv_aload_n hx hb dX12_image_96 rfl (lv_at hl 0 rfl) ?_
      refine G_X12_ledRight C hP q_1101 dX12_image_97 ?_
      refine AS_X12_image C hP hD hS (by decide) dX12_image_100 (fun H locs hP hD hS => ?_)
      refine nameS hP hD hf (fun σ6 hP hD hf => ?_)
      refine lv_aload_n hx hb dX12_image_101 rfl (lv_at hl 0 rfl) ?_
      refine G_X12_image C hP q_1104 dX12_image_102 ?_
      refine lv_bipush (v := 17) hx hb dX12_image_105 (by decide) ?_
      refine lv_aload_n hx hb dX12_image_107 rfl (lv_at hl 0 rfl) ?_
      refine G_X12_ledTime C hP q_1102 dX12_image_108 ?_
      refine AS_X12_image C hP hD hS (by decide) dX12_image_111 (fun H locs hP hD hS => ?_)
      refine nameS hP hD hf (fun σ7 hP hD hf => ?_)
      refine lv_aload_n hx hb dX12_image_112 rfl (lv_at hl 0 rfl) ?_
      refine G_X12_ledCalls C hP q_1100 dX12_image_113 ?_
      exact retI hQ hf dX12_image_116 hP hD hS
    · replace hf := ineg c1 hf
      refine lv_aload_n hx hb dX12_image_13 rfl (lv_at hl 0 rfl) ?_
      refine G_X12_image C hP q_1104 dX12_image_14 ?_
      refine lv_iload_n hx hb dX12_image_17 rfl (lv_at hl 1 rfl) ?_
      refine lv_aload_n hx hb dX12_image_18 rfl (lv_at hl 0 rfl) ?_
      refine G_X12_saidMany C hP q_1098 dX12_image_19 ?_
      refine lv_iload_n hx hb dX12_image_22 rfl (lv_at hl 1 rfl) ?_
      obtain ⟨h8, hf⟩ := chk_some hf
      refine AL_X12_saidMany C hP h8 dX12_image_23 ?_
      obtain ⟨h9, hf⟩ := chk_some hf
      refine AS_X12_image C hP hD hS h9 dX12_image_24 (fun H locs hP hD hS => ?_)
      refine nameS hP hD hf (fun σ10 hP hD hf => ?_)
      refine lv_aload_n hx hb dX12_image_25 rfl (lv_at hl 0 rfl) ?_
      refine G_X12_image C hP q_1104 dX12_image_26 ?_
      refine lv_bipush (v := 6) hx hb dX12_image_29 (by decide) ?_
      refine lv_iload_n hx hb dX12_image_31 rfl (lv_at hl 1 rfl) ?_
      refine lv_iadd hx hb dX12_image_32 ?_
      refine lv_aload_n hx hb dX12_image_33 rfl (lv_at hl 0 rfl) ?_
      refine G_X12_notedAs C hP q_1099 dX12_image_34 ?_
      refine lv_iload_n hx hb dX12_image_37 rfl (lv_at hl 1 rfl) ?_
      obtain ⟨h11, hf⟩ := chk_some hf
      refine AL_X12_notedAs C hP h11 dX12_image_38 ?_
      obtain ⟨h12, hf⟩ := chk_some hf
      refine AS_X12_image C hP hD hS h12 dX12_image_39 (fun H locs hP hD hS => ?_)
      refine nameS hP hD hf (fun σ13 hP hD hf => ?_)
      obtain ⟨v14, ev14⟩ : ∃ z : Int32, z = x1 + 1 := ⟨_, rfl⟩
      replace hf := bnd_at ev14 hf
      refine lv_iinc (v := v14) (lv' := [(1, .int v14), (0, .ref (a 0))]) hx hb dX12_image_40 hl (k := 1) rfl (by rw [ev14]; rfl) (by decide) rfl (fun ls hl => ?_)
      refine lv_goto (tgt := 7) hx hb dX12_image_43 (by decide) ?_
      exact ih _ _ _ _ _ hf hP hD hS (lv_sub hl [1, 0] rfl)
set_option maxHeartbeats 4000000 in
set_option maxRecDepth 100000 in
theorem c_X12_image {l : Launch} {g : va_G} {ts : ClassId × ClassId × ClassId} {a : Nat → Nat} {σ : St} {r : Int32} {σ' : St} (hf : f_X12_image σ = some (r, σ')) : ConI l g ts (WM ts a) yX12_image cX12_image 2 (some .int) (rk 0 0) σ [.ref (a 0)] r σ' := by
  refine ConI_mk .int rfl rfl rfl rfl (by decide) (Nat.le_of_ble_eq_true rfl) ?_
  intro p e s m below meth c A Q ls C hQ hP hD hS hl
  have C : FX p s m _ meth c RX12 cX12_image 2 g ts A := C
  have hx := C.1
  have hb := C.2.1
  have hown := C.2.2.2.1
  have hts := C.2.2.2.2.1
  have hl : lv_has ls 2 [(0, .ref (a 0))] := hl
  rw [f_X12_image] at hf
  refine lv_aload_n hx hb dX12_image_0 rfl (lv_at hl 0 rfl) ?_
  refine lv_iconst (v := 1) hx hb dX12_image_1 (by decide) ?_
  refine S_X12_isKept rfl rfl C hP hD hS q_1103 dX12_image_2 (fun H locs hP hD hS => ?_)
  refine lv_iconst (v := 0) hx hb dX12_image_5 (by decide) ?_
  refine lv_istore_n (lv' := [(1, .int (0 : Int32)), (0, .ref (a 0))]) hx hb dX12_image_6 rfl hl (by decide) rfl (fun ls hl => ?_)
  exact w_X12_image_b7 C hQ 256 _ _ _ _ _ hf hP hD hS (lv_sub hl [1, 0] rfl)
theorem dX12_back_0 : decode cX12_back 0 = .ok (.aload_n 0, 1) := by decide +kernel
theorem dX12_back_1 : decode cX12_back 1 = .ok (.getfield 301, 3) := by decide +kernel
theorem dX12_back_4 : decode cX12_back 4 = .ok (.ifCond .ne 6, 3) := by decide +kernel
theorem dX12_back_7 : decode cX12_back 7 = .ok (.bipush (-5), 2) := by decide +kernel
theorem dX12_back_9 : decode cX12_back 9 = .ok (.ireturn, 1) := by decide +kernel
theorem dX12_back_10 : decode cX12_back 10 = .ok (.iconst 0, 1) := by decide +kernel
theorem dX12_back_11 : decode cX12_back 11 = .ok (.istore_n 1, 1) := by decide +kernel
theorem dX12_back_12 : decode cX12_back 12 = .ok (.iload_n 1, 1) := by decide +kernel
theorem dX12_back_13 : decode cX12_back 13 = .ok (.bipush 6, 2) := by decide +kernel
theorem dX12_back_15 : decode cX12_back 15 = .ok (.if_icmp .ge 36, 3) := by decide +kernel
theorem dX12_back_18 : decode cX12_back 18 = .ok (.aload_n 0, 1) := by decide +kernel
theorem dX12_back_19 : decode cX12_back 19 = .ok (.getfield 49, 3) := by decide +kernel
theorem dX12_back_22 : decode cX12_back 22 = .ok (.iload_n 1, 1) := by decide +kernel
theorem dX12_back_23 : decode cX12_back 23 = .ok (.aload_n 0, 1) := by decide +kernel
theorem dX12_back_24 : decode cX12_back 24 = .ok (.getfield 55, 3) := by decide +kernel
theorem dX12_back_27 : decode cX12_back 27 = .ok (.iload_n 1, 1) := by decide +kernel
theorem dX12_back_28 : decode cX12_back 28 = .ok (.iaload, 1) := by decide +kernel
theorem dX12_back_29 : decode cX12_back 29 = .ok (.iastore, 1) := by decide +kernel
theorem dX12_back_30 : decode cX12_back 30 = .ok (.aload_n 0, 1) := by decide +kernel
theorem dX12_back_31 : decode cX12_back 31 = .ok (.getfield 52, 3) := by decide +kernel
theorem dX12_back_34 : decode cX12_back 34 = .ok (.iload_n 1, 1) := by decide +kernel
theorem dX12_back_35 : decode cX12_back 35 = .ok (.aload_n 0, 1) := by decide +kernel
theorem dX12_back_36 : decode cX12_back 36 = .ok (.getfield 55, 3) := by decide +kernel
theorem dX12_back_39 : decode cX12_back 39 = .ok (.bipush 6, 2) := by decide +kernel
theorem dX12_back_41 : decode cX12_back 41 = .ok (.iload_n 1, 1) := by decide +kernel
theorem dX12_back_42 : decode cX12_back 42 = .ok (.iadd, 1) := by decide +kernel
theorem dX12_back_43 : decode cX12_back 43 = .ok (.iaload, 1) := by decide +kernel
theorem dX12_back_44 : decode cX12_back 44 = .ok (.iastore, 1) := by decide +kernel
theorem dX12_back_45 : decode cX12_back 45 = .ok (.iinc 1 1, 3) := by decide +kernel
theorem dX12_back_48 : decode cX12_back 48 = .ok (.goto (-36), 3) := by decide +kernel
theorem dX12_back_51 : decode cX12_back 51 = .ok (.aload_n 0, 1) := by decide +kernel
theorem dX12_back_52 : decode cX12_back 52 = .ok (.aload_n 0, 1) := by decide +kernel
theorem dX12_back_53 : decode cX12_back 53 = .ok (.getfield 55, 3) := by decide +kernel
theorem dX12_back_56 : decode cX12_back 56 = .ok (.bipush 12, 2) := by decide +kernel
theorem dX12_back_58 : decode cX12_back 58 = .ok (.iaload, 1) := by decide +kernel
theorem dX12_back_59 : decode cX12_back 59 = .ok (.putfield 80, 3) := by decide +kernel
theorem dX12_back_62 : decode cX12_back 62 = .ok (.aload_n 0, 1) := by decide +kernel
theorem dX12_back_63 : decode cX12_back 63 = .ok (.aload_n 0, 1) := by decide +kernel
theorem dX12_back_64 : decode cX12_back 64 = .ok (.getfield 55, 3) := by decide +kernel
theorem dX12_back_67 : decode cX12_back 67 = .ok (.bipush 13, 2) := by decide +kernel
theorem dX12_back_69 : decode cX12_back 69 = .ok (.iaload, 1) := by decide +kernel
theorem dX12_back_70 : decode cX12_back 70 = .ok (.putfield 281, 3) := by decide +kernel
theorem dX12_back_73 : decode cX12_back 73 = .ok (.aload_n 0, 1) := by decide +kernel
theorem dX12_back_74 : decode cX12_back 74 = .ok (.aload_n 0, 1) := by decide +kernel
theorem dX12_back_75 : decode cX12_back 75 = .ok (.getfield 55, 3) := by decide +kernel
theorem dX12_back_78 : decode cX12_back 78 = .ok (.bipush 14, 2) := by decide +kernel
theorem dX12_back_80 : decode cX12_back 80 = .ok (.iaload, 1) := by decide +kernel
theorem dX12_back_81 : decode cX12_back 81 = .ok (.putfield 284, 3) := by decide +kernel
theorem dX12_back_84 : decode cX12_back 84 = .ok (.aload_n 0, 1) := by decide +kernel
theorem dX12_back_85 : decode cX12_back 85 = .ok (.aload_n 0, 1) := by decide +kernel
theorem dX12_back_86 : decode cX12_back 86 = .ok (.getfield 55, 3) := by decide +kernel
theorem dX12_back_89 : decode cX12_back 89 = .ok (.bipush 15, 2) := by decide +kernel
theorem dX12_back_91 : decode cX12_back 91 = .ok (.iaload, 1) := by decide +kernel
theorem dX12_back_92 : decode cX12_back 92 = .ok (.putfield 292, 3) := by decide +kernel
theorem dX12_back_95 : decode cX12_back 95 = .ok (.aload_n 0, 1) := by decide +kernel
theorem dX12_back_96 : decode cX12_back 96 = .ok (.aload_n 0, 1) := by decide +kernel
theorem dX12_back_97 : decode cX12_back 97 = .ok (.getfield 55, 3) := by decide +kernel
theorem dX12_back_100 : decode cX12_back 100 = .ok (.bipush 16, 2) := by decide +kernel
theorem dX12_back_102 : decode cX12_back 102 = .ok (.iaload, 1) := by decide +kernel
theorem dX12_back_103 : decode cX12_back 103 = .ok (.putfield 295, 3) := by decide +kernel
theorem dX12_back_106 : decode cX12_back 106 = .ok (.aload_n 0, 1) := by decide +kernel
theorem dX12_back_107 : decode cX12_back 107 = .ok (.aload_n 0, 1) := by decide +kernel
theorem dX12_back_108 : decode cX12_back 108 = .ok (.getfield 55, 3) := by decide +kernel
theorem dX12_back_111 : decode cX12_back 111 = .ok (.bipush 17, 2) := by decide +kernel
theorem dX12_back_113 : decode cX12_back 113 = .ok (.iaload, 1) := by decide +kernel
theorem dX12_back_114 : decode cX12_back 114 = .ok (.putfield 289, 3) := by decide +kernel
theorem dX12_back_117 : decode cX12_back 117 = .ok (.aload_n 0, 1) := by decide +kernel
theorem dX12_back_118 : decode cX12_back 118 = .ok (.getfield 292, 3) := by decide +kernel
theorem dX12_back_121 : decode cX12_back 121 = .ok (.ireturn, 1) := by decide +kernel
def f_X12_back_b12 : Nat → St → Int32 → Option (Int32 × St)
  | 0, _, _ => none
  | n + 1, σ, x1 => if (6 : Int32) ≤ x1 then (bnd (sI σ 623 0 (σ.2.2.1 632 0 (12 : Int32).toNatClampNeg)) (fun σ3 => bnd (sI σ3 624 0 (σ3.2.2.1 632 0 (13 : Int32).toNatClampNeg)) (fun σ4 => bnd (sI σ4 625 0 (σ4.2.2.1 632 0 (14 : Int32).toNatClampNeg)) (fun σ5 => bnd (sI σ5 628 0 (σ5.2.2.1 632 0 (15 : Int32).toNatClampNeg)) (fun σ6 => bnd (sI σ6 629 0 (σ6.2.2.1 632 0 (16 : Int32).toNatClampNeg)) (fun σ7 => bnd (sI σ7 630 0 (σ7.2.2.1 632 0 (17 : Int32).toNatClampNeg)) (fun σ8 => some (σ8.1 628 0, σ8)))))))) else (chk (x1 < 0 ∨ 18 ≤ x1.toNatClampNeg) (chk (x1 < 0 ∨ 6 ≤ x1.toNatClampNeg) (bnd (sA σ 626 0 (upd (σ.2.2.1 626 0) x1.toNatClampNeg (σ.2.2.1 632 0 x1.toNatClampNeg))) (fun σ11 => chk ((6 : Int32) + x1 < 0 ∨ 18 ≤ ((6 : Int32) + x1).toNatClampNeg) (chk (x1 < 0 ∨ 6 ≤ x1.toNatClampNeg) (bnd (sA σ11 627 0 (upd (σ11.2.2.1 627 0) x1.toNatClampNeg (σ11.2.2.1 632 0 ((6 : Int32) + x1).toNatClampNeg))) (fun σ14 => bnd (x1 + 1) (fun v15 => f_X12_back_b12 n σ14 v15))))))))
def f_X12_back (σ : St) : Option (Int32 × St) := if σ.1 631 0 = 0 then (some ((-5 : Int32), σ)) else (f_X12_back_b12 256 σ (0 : Int32))
set_option maxHeartbeats 4000000 in
set_option maxRecDepth 100000 in
theorem w_X12_back_b12 {p : Program} {l : Launch} {e : Env} {s : State} {m : MethodId} {args : Array Value} {below : List Frame} {meth : Method} {c : Code} {g : va_G} {ts : ClassId × ClassId × ClassId} {A : Nat → Prop} {Q : State → Prop} {a : Nat → Nat} {r : Int32} {σ' : St} (C : FX p s m args meth c RX12 cX12_back 2 g ts A) (hQ : RetI p l e (rk 0 0) s m args below meth c cX12_back g (WM ts a) A r σ' Q) : ∀ (n : Nat) (σ : St) (x1 : Int32) (H : Heap) (locs : List Loc) (ls : Array Slot), f_X12_back_b12 n σ x1 = some (r, σ') → va_P g classes (WM ts a σ) H → va_D A (WM ts a σ) → va_S A s.heap H locs → lv_has ls 2 [(0, .ref (a 0)), (1, .int x1)] → W p l e (rk 0 0) s m args below meth c H locs 0 0 Q (F0 m 12 ls []) := by
  have hx := C.1
  have hb := C.2.1
  have hown := C.2.2.2.1
  have hts := C.2.2.2.2.1
  intro n
  induction n with
  | zero =>
    intro σ x1 H locs ls hf
    cases hf
  | succ n ih =>
    intro σ x1 H locs ls hf hP hD hS hl
    rw [f_X12_back_b12] at hf
    refine lv_iload_n hx hb dX12_back_12 rfl (lv_at hl 1 rfl) ?_
    refine lv_bipush (v := 6) hx hb dX12_back_13 (by decide) ?_
    refine lv_icmp_ge (tgt := 51) hx hb dX12_back_15 (by decide) (fun c2 => ?_) (fun c2 => ?_)
    · replace hf := ipos c2 hf
      refine lv_aload_n hx hb dX12_back_51 rfl (lv_at hl 0 rfl) ?_
      refine lv_aload_n hx hb dX12_back_52 rfl (lv_at hl 0 rfl) ?_
      refine G_X12_image C hP q_1104 dX12_back_53 ?_
      refine lv_bipush (v := 12) hx hb dX12_back_56 (by decide) ?_
      refine AL_X12_image C hP (by decide) dX12_back_58 ?_
      refine S_X12_onName C hP hD hS q_1095 dX12_back_59 (fun H locs hP hD hS => ?_)
      refine nameS hP hD hf (fun σ3 hP hD hf => ?_)
      refine lv_aload_n hx hb dX12_back_62 rfl (lv_at hl 0 rfl) ?_
      refine lv_aload_n hx hb dX12_back_63 rfl (lv_at hl 0 rfl) ?_
      refine G_X12_image C hP q_1104 dX12_back_64 ?_
      refine lv_bipush (v := 13) hx hb dX12_back_67 (by decide) ?_
      refine AL_X12_image C hP (by decide) dX12_back_69 ?_
      refine S_X12_onDraws C hP hD hS q_1096 dX12_back_70 (fun H locs hP hD hS => ?_)
      refine nameS hP hD hf (fun σ4 hP hD hf => ?_)
      refine lv_aload_n hx hb dX12_back_73 rfl (lv_at hl 0 rfl) ?_
      refine lv_aload_n hx hb dX12_back_74 rfl (lv_at hl 0 rfl) ?_
      refine G_X12_image C hP q_1104 dX12_back_75 ?_
      refine lv_bipush (v := 14) hx hb dX12_back_78 (by decide) ?_
      refine AL_X12_image C hP (by decide) dX12_back_80 ?_
      refine S_X12_onSaid C hP hD hS q_1097 dX12_back_81 (fun H locs hP hD hS => ?_)
      refine nameS hP hD hf (fun σ5 hP hD hf => ?_)
      refine lv_aload_n hx hb dX12_back_84 rfl (lv_at hl 0 rfl) ?_
      refine lv_aload_n hx hb dX12_back_85 rfl (lv_at hl 0 rfl) ?_
      refine G_X12_image C hP q_1104 dX12_back_86 ?_
      refine lv_bipush (v := 15) hx hb dX12_back_89 (by decide) ?_
      refine AL_X12_image C hP (by decide) dX12_back_91 ?_
      refine S_X12_ledCalls C hP hD hS q_1100 dX12_back_92 (fun H locs hP hD hS => ?_)
      refine nameS hP hD hf (fun σ6 hP hD hf => ?_)
      refine lv_aload_n hx hb dX12_back_95 rfl (lv_at hl 0 rfl) ?_
      refine lv_aload_n hx hb dX12_back_96 rfl (lv_at hl 0 rfl) ?_
      refine G_X12_image C hP q_1104 dX12_back_97 ?_
      refine lv_bipush (v := 16) hx hb dX12_back_100 (by decide) ?_
      refine AL_X12_image C hP (by decide) dX12_back_102 ?_
      refine S_X12_ledRight C hP hD hS q_1101 dX12_back_103 (fun H locs hP hD hS => ?_)
      refine nameS hP hD hf (fun σ7 hP hD hf => ?_)
      refine lv_aload_n hx hb dX12_back_106 rfl (lv_at hl 0 rfl) ?_
      refine lv_aload_n hx hb dX12_back_107 rfl (lv_at hl 0 rfl) ?_
      refine G_X12_image C hP q_1104 dX12_back_108 ?_
      refine lv_bipush (v := 17) hx hb dX12_back_111 (by decide) ?_
      refine AL_X12_image C hP (by decide) dX12_back_113 ?_
      refine S_X12_ledTime C hP hD hS q_1102 dX12_back_114 (fun H locs hP hD hS => ?_)
      refine nameS hP hD hf (fun σ8 hP hD hf => ?_)
      refine lv_aload_n hx hb dX12_back_117 rfl (lv_at hl 0 rfl) ?_
      refine G_X12_ledCalls C hP q_1100 dX12_back_118 ?_
      exact retI hQ hf dX12_back_121 hP hD hS
    · replace hf := ineg c2 hf
      refine lv_aload_n hx hb dX12_back_18 rfl (lv_at hl 0 rfl) ?_
      refine G_X12_saidMany C hP q_1098 dX12_back_19 ?_
      refine lv_iload_n hx hb dX12_back_22 rfl (lv_at hl 1 rfl) ?_
      refine lv_aload_n hx hb dX12_back_23 rfl (lv_at hl 0 rfl) ?_
      refine G_X12_image C hP q_1104 dX12_back_24 ?_
      refine lv_iload_n hx hb dX12_back_27 rfl (lv_at hl 1 rfl) ?_
      obtain ⟨h9, hf⟩ := chk_some hf
      refine AL_X12_image C hP h9 dX12_back_28 ?_
      obtain ⟨h10, hf⟩ := chk_some hf
      refine AS_X12_saidMany C hP hD hS h10 dX12_back_29 (fun H locs hP hD hS => ?_)
      refine nameS hP hD hf (fun σ11 hP hD hf => ?_)
      refine lv_aload_n hx hb dX12_back_30 rfl (lv_at hl 0 rfl) ?_
      refine G_X12_notedAs C hP q_1099 dX12_back_31 ?_
      refine lv_iload_n hx hb dX12_back_34 rfl (lv_at hl 1 rfl) ?_
      refine lv_aload_n hx hb dX12_back_35 rfl (lv_at hl 0 rfl) ?_
      refine G_X12_image C hP q_1104 dX12_back_36 ?_
      refine lv_bipush (v := 6) hx hb dX12_back_39 (by decide) ?_
      refine lv_iload_n hx hb dX12_back_41 rfl (lv_at hl 1 rfl) ?_
      refine lv_iadd hx hb dX12_back_42 ?_
      obtain ⟨h12, hf⟩ := chk_some hf
      refine AL_X12_image C hP h12 dX12_back_43 ?_
      obtain ⟨h13, hf⟩ := chk_some hf
      refine AS_X12_notedAs C hP hD hS h13 dX12_back_44 (fun H locs hP hD hS => ?_)
      refine nameS hP hD hf (fun σ14 hP hD hf => ?_)
      obtain ⟨v15, ev15⟩ : ∃ z : Int32, z = x1 + 1 := ⟨_, rfl⟩
      replace hf := bnd_at ev15 hf
      refine lv_iinc (v := v15) (lv' := [(1, .int v15), (0, .ref (a 0))]) hx hb dX12_back_45 hl (k := 1) rfl (by rw [ev15]; rfl) (by decide) rfl (fun ls hl => ?_)
      refine lv_goto (tgt := 12) hx hb dX12_back_48 (by decide) ?_
      exact ih _ _ _ _ _ hf hP hD hS (lv_sub hl [1, 0] rfl)
set_option maxHeartbeats 4000000 in
set_option maxRecDepth 100000 in
theorem c_X12_back {l : Launch} {g : va_G} {ts : ClassId × ClassId × ClassId} {a : Nat → Nat} {σ : St} {r : Int32} {σ' : St} (hf : f_X12_back σ = some (r, σ')) : ConI l g ts (WM ts a) yX12_back cX12_back 2 (some .int) (rk 0 0) σ [.ref (a 0)] r σ' := by
  refine ConI_mk .int rfl rfl rfl rfl (by decide) (Nat.le_of_ble_eq_true rfl) ?_
  intro p e s m below meth c A Q ls C hQ hP hD hS hl
  have C : FX p s m _ meth c RX12 cX12_back 2 g ts A := C
  have hx := C.1
  have hb := C.2.1
  have hown := C.2.2.2.1
  have hts := C.2.2.2.2.1
  have hl : lv_has ls 2 [(0, .ref (a 0))] := hl
  rw [f_X12_back] at hf
  refine lv_aload_n hx hb dX12_back_0 rfl (lv_at hl 0 rfl) ?_
  refine G_X12_isKept C hP q_1103 dX12_back_1 ?_
  refine lv_if_ne (tgt := 10) hx hb dX12_back_4 (by decide) (fun c1 => ?_) (fun c1 => ?_)
  · replace hf := ineg c1 hf
    refine lv_iconst (v := 0) hx hb dX12_back_10 (by decide) ?_
    refine lv_istore_n (lv' := [(1, .int (0 : Int32)), (0, .ref (a 0))]) hx hb dX12_back_11 rfl hl (by decide) rfl (fun ls hl => ?_)
    exact w_X12_back_b12 C hQ 256 _ _ _ _ _ hf hP hD hS (lv_sub hl [1, 0] rfl)
  · replace hf := ipos c1 hf
    refine lv_bipush (v := -5) hx hb dX12_back_7 (by decide) ?_
    exact retI hQ hf dX12_back_9 hP hD hS
theorem dX12_isBody_0 : decode cX12_isBody 0 = .ok (.iload_n 1, 1) := by decide +kernel
theorem dX12_isBody_1 : decode cX12_isBody 1 = .ok (.i2l, 1) := by decide +kernel
theorem dX12_isBody_2 : decode cX12_isBody 2 = .ok (.lconst 0, 1) := by decide +kernel
theorem dX12_isBody_3 : decode cX12_isBody 3 = .ok (.aload_n 0, 1) := by decide +kernel
theorem dX12_isBody_4 : decode cX12_isBody 4 = .ok (.getfield 305, 3) := by decide +kernel
theorem dX12_isBody_7 : decode cX12_isBody 7 = .ok (.iconst 1, 1) := by decide +kernel
theorem dX12_isBody_8 : decode cX12_isBody 8 = .ok (.isub, 1) := by decide +kernel
theorem dX12_isBody_9 : decode cX12_isBody 9 = .ok (.i2l, 1) := by decide +kernel
theorem dX12_isBody_10 : decode cX12_isBody 10 = .ok (.invokestatic 91, 3) := by decide +kernel
theorem dX12_isBody_13 : decode cX12_isBody 13 = .ok (.ireturn, 1) := by decide +kernel
def f_X12_isBody0 (σ : St) (p1 : Int32) : Option (Int32 × St) := bnd1 (f_X12_within ((p1 : Int32).toInt64) (0 : Int64) ((((σ.1 633 0) - (1 : Int32)) : Int32).toInt64)) (fun r2 => some (r2, σ))
def f_X12_isBody (σ : St) (p1 : Int32) : Option (Int32 × St) := chkB (f_X12_isBody0 σ p1)
set_option maxHeartbeats 4000000 in
set_option maxRecDepth 100000 in
theorem c_X12_isBody {l : Launch} {g : va_G} {ts : ClassId × ClassId × ClassId} {a : Nat → Nat} {σ : St} {p1 : Int32} {r : Int32} {σ' : St} (hf : f_X12_isBody σ p1 = some (r, σ')) : ConI l g ts (WM ts a) yX12_isBody cX12_isBody 2 (some .boolean) (rk 1 25) σ [.ref (a 0), .int p1] r σ' := by
  rw [f_X12_isBody] at hf
  obtain ⟨hf, hn⟩ := chkB_some hf
  refine ConI_mk .boolean rfl hn rfl rfl (by decide) (Nat.le_of_ble_eq_true rfl) ?_
  intro p e s m below meth c A Q ls C hQ hP hD hS hl
  have C : FX p s m _ meth c RX12 cX12_isBody 2 g ts A := C
  have hx := C.1
  have hb := C.2.1
  have hown := C.2.2.2.1
  have hts := C.2.2.2.2.1
  have hl : lv_has ls 2 [(0, .ref (a 0)), (1, .int p1)] := hl
  rw [f_X12_isBody0] at hf
  refine lv_iload_n hx hb dX12_isBody_0 rfl (lv_at hl 1 rfl) ?_
  refine lv_i2l (v := (p1 : Int32).toInt64) hx hb dX12_isBody_1 rfl ?_
  refine lv_lconst (v := 0) hx hb dX12_isBody_2 (by decide) ?_
  refine lv_aload_n hx hb dX12_isBody_3 rfl (lv_at hl 0 rfl) ?_
  refine G_X12_bodies C hP q_1105 dX12_isBody_4 ?_
  refine lv_iconst (v := 1) hx hb dX12_isBody_7 (by decide) ?_
  refine lv_isub hx hb dX12_isBody_8 ?_
  refine lv_i2l (v := (((σ.1 633 0) - (1 : Int32)) : Int32).toInt64) hx hb dX12_isBody_9 rfl ?_
  obtain ⟨r2, h1, hf⟩ := bnd1_some hf
  refine tI [] C hP hD hS (c_X12_within h1) ms_X12_within q_1218 dX12_isBody_10 ⟨Nat.le_of_ble_eq_true rfl, Nat.le_of_ble_eq_true rfl⟩ ⟨Nat.zero_le _, Nat.zero_le _⟩ rfl rfl (Nat.le_of_ble_eq_true rfl) hl.1 (fun H locs hP hD hS => ?_)
  exact retI hQ hf dX12_isBody_13 hP hD hS
theorem dX12_kindOf_0 : decode cX12_kindOf 0 = .ok (.aload_n 0, 1) := by decide +kernel
theorem dX12_kindOf_1 : decode cX12_kindOf 1 = .ok (.getfield 58, 3) := by decide +kernel
theorem dX12_kindOf_4 : decode cX12_kindOf 4 = .ok (.iload_n 1, 1) := by decide +kernel
theorem dX12_kindOf_5 : decode cX12_kindOf 5 = .ok (.iaload, 1) := by decide +kernel
theorem dX12_kindOf_6 : decode cX12_kindOf 6 = .ok (.ireturn, 1) := by decide +kernel
def f_X12_kindOf (σ : St) (p1 : Int32) : Option (Int32 × St) := chk (p1 < 0 ∨ 50 ≤ p1.toNatClampNeg) (some (σ.2.2.1 634 0 p1.toNatClampNeg, σ))
set_option maxHeartbeats 4000000 in
set_option maxRecDepth 100000 in
theorem c_X12_kindOf {l : Launch} {g : va_G} {ts : ClassId × ClassId × ClassId} {a : Nat → Nat} {σ : St} {p1 : Int32} {r : Int32} {σ' : St} (hf : f_X12_kindOf σ p1 = some (r, σ')) : ConI l g ts (WM ts a) yX12_kindOf cX12_kindOf 2 (some .int) (rk 0 0) σ [.ref (a 0), .int p1] r σ' := by
  refine ConI_mk .int rfl rfl rfl rfl (by decide) (Nat.le_of_ble_eq_true rfl) ?_
  intro p e s m below meth c A Q ls C hQ hP hD hS hl
  have C : FX p s m _ meth c RX12 cX12_kindOf 2 g ts A := C
  have hx := C.1
  have hb := C.2.1
  have hown := C.2.2.2.1
  have hts := C.2.2.2.2.1
  have hl : lv_has ls 2 [(0, .ref (a 0)), (1, .int p1)] := hl
  rw [f_X12_kindOf] at hf
  refine lv_aload_n hx hb dX12_kindOf_0 rfl (lv_at hl 0 rfl) ?_
  refine G_X12_bodyKind C hP q_1106 dX12_kindOf_1 ?_
  refine lv_iload_n hx hb dX12_kindOf_4 rfl (lv_at hl 1 rfl) ?_
  obtain ⟨h1, hf⟩ := chk_some hf
  refine AL_X12_bodyKind C hP h1 dX12_kindOf_5 ?_
  exact retI hQ hf dX12_kindOf_6 hP hD hS
theorem dX12_body_0 : decode cX12_body 0 = .ok (.iload_n 1, 1) := by decide +kernel
theorem dX12_body_1 : decode cX12_body 1 = .ok (.i2l, 1) := by decide +kernel
theorem dX12_body_2 : decode cX12_body 2 = .ok (.lconst 0, 1) := by decide +kernel
theorem dX12_body_3 : decode cX12_body 3 = .ok (.ldc2_w 308, 3) := by decide +kernel
theorem dX12_body_6 : decode cX12_body 6 = .ok (.invokestatic 91, 3) := by decide +kernel
theorem dX12_body_9 : decode cX12_body 9 = .ok (.ifCond .ne 5, 3) := by decide +kernel
theorem dX12_body_12 : decode cX12_body 12 = .ok (.iconst (-1), 1) := by decide +kernel
theorem dX12_body_13 : decode cX12_body 13 = .ok (.ireturn, 1) := by decide +kernel
theorem dX12_body_14 : decode cX12_body 14 = .ok (.aload_n 0, 1) := by decide +kernel
theorem dX12_body_15 : decode cX12_body 15 = .ok (.getfield 305, 3) := by decide +kernel
theorem dX12_body_18 : decode cX12_body 18 = .ok (.bipush 50, 2) := by decide +kernel
theorem dX12_body_20 : decode cX12_body 20 = .ok (.if_icmp .ne 6, 3) := by decide +kernel
theorem dX12_body_23 : decode cX12_body 23 = .ok (.bipush (-3), 2) := by decide +kernel
theorem dX12_body_25 : decode cX12_body 25 = .ok (.ireturn, 1) := by decide +kernel
theorem dX12_body_26 : decode cX12_body 26 = .ok (.aload_n 0, 1) := by decide +kernel
theorem dX12_body_27 : decode cX12_body 27 = .ok (.getfield 58, 3) := by decide +kernel
theorem dX12_body_30 : decode cX12_body 30 = .ok (.aload_n 0, 1) := by decide +kernel
theorem dX12_body_31 : decode cX12_body 31 = .ok (.getfield 305, 3) := by decide +kernel
theorem dX12_body_34 : decode cX12_body 34 = .ok (.iload_n 1, 1) := by decide +kernel
theorem dX12_body_35 : decode cX12_body 35 = .ok (.iastore, 1) := by decide +kernel
theorem dX12_body_36 : decode cX12_body 36 = .ok (.aload_n 0, 1) := by decide +kernel
theorem dX12_body_37 : decode cX12_body 37 = .ok (.dup, 1) := by decide +kernel
theorem dX12_body_38 : decode cX12_body 38 = .ok (.getfield 305, 3) := by decide +kernel
theorem dX12_body_41 : decode cX12_body 41 = .ok (.iconst 1, 1) := by decide +kernel
theorem dX12_body_42 : decode cX12_body 42 = .ok (.iadd, 1) := by decide +kernel
theorem dX12_body_43 : decode cX12_body 43 = .ok (.putfield 305, 3) := by decide +kernel
theorem dX12_body_46 : decode cX12_body 46 = .ok (.aload_n 0, 1) := by decide +kernel
theorem dX12_body_47 : decode cX12_body 47 = .ok (.getfield 305, 3) := by decide +kernel
theorem dX12_body_50 : decode cX12_body 50 = .ok (.iconst 1, 1) := by decide +kernel
theorem dX12_body_51 : decode cX12_body 51 = .ok (.isub, 1) := by decide +kernel
theorem dX12_body_52 : decode cX12_body 52 = .ok (.ireturn, 1) := by decide +kernel
def f_X12_body (σ : St) (p1 : Int32) : Option (Int32 × St) := bnd1 (f_X12_within ((p1 : Int32).toInt64) (0 : Int64) (7 : Int64)) (fun r2 => if r2 = 0 then (some ((-1 : Int32), σ)) else (if σ.1 633 0 = (50 : Int32) then (some ((-3 : Int32), σ)) else (chk (σ.1 633 0 < 0 ∨ 50 ≤ (σ.1 633 0).toNatClampNeg) (bnd (sA σ 634 0 (upd (σ.2.2.1 634 0) (σ.1 633 0).toNatClampNeg p1)) (fun σ6 => some (((sI σ6 633 0 ((σ6.1 633 0) + (1 : Int32))).1 633 0) - (1 : Int32), sI σ6 633 0 ((σ6.1 633 0) + (1 : Int32))))))))
set_option maxHeartbeats 4000000 in
set_option maxRecDepth 100000 in
theorem c_X12_body {l : Launch} {g : va_G} {ts : ClassId × ClassId × ClassId} {a : Nat → Nat} {σ : St} {p1 : Int32} {r : Int32} {σ' : St} (hf : f_X12_body σ p1 = some (r, σ')) : ConI l g ts (WM ts a) yX12_body cX12_body 2 (some .int) (rk 1 25) σ [.ref (a 0), .int p1] r σ' := by
  refine ConI_mk .int rfl rfl rfl rfl (by decide) (Nat.le_of_ble_eq_true rfl) ?_
  intro p e s m below meth c A Q ls C hQ hP hD hS hl
  have C : FX p s m _ meth c RX12 cX12_body 2 g ts A := C
  have hx := C.1
  have hb := C.2.1
  have hown := C.2.2.2.1
  have hts := C.2.2.2.2.1
  have hl : lv_has ls 2 [(0, .ref (a 0)), (1, .int p1)] := hl
  rw [f_X12_body] at hf
  refine lv_iload_n hx hb dX12_body_0 rfl (lv_at hl 1 rfl) ?_
  refine lv_i2l (v := (p1 : Int32).toInt64) hx hb dX12_body_1 rfl ?_
  refine lv_lconst (v := 0) hx hb dX12_body_2 (by decide) ?_
  refine lv_ldc2 hx hb hown (hts _ q_1520) dX12_body_3 ?_
  obtain ⟨r2, h1, hf⟩ := bnd1_some hf
  refine tI [] C hP hD hS (c_X12_within h1) ms_X12_within q_1218 dX12_body_6 ⟨Nat.le_of_ble_eq_true rfl, Nat.le_of_ble_eq_true rfl⟩ ⟨Nat.zero_le _, Nat.zero_le _⟩ rfl rfl (Nat.le_of_ble_eq_true rfl) hl.1 (fun H locs hP hD hS => ?_)
  refine lv_if_ne (tgt := 14) hx hb dX12_body_9 (by decide) (fun c3 => ?_) (fun c3 => ?_)
  · replace hf := ineg c3 hf
    refine lv_aload_n hx hb dX12_body_14 rfl (lv_at hl 0 rfl) ?_
    refine G_X12_bodies C hP q_1105 dX12_body_15 ?_
    refine lv_bipush (v := 50) hx hb dX12_body_18 (by decide) ?_
    refine lv_icmp_ne (tgt := 26) hx hb dX12_body_20 (by decide) (fun c4 => ?_) (fun c4 => ?_)
    · replace hf := ineg c4 hf
      refine lv_aload_n hx hb dX12_body_26 rfl (lv_at hl 0 rfl) ?_
      refine G_X12_bodyKind C hP q_1106 dX12_body_27 ?_
      refine lv_aload_n hx hb dX12_body_30 rfl (lv_at hl 0 rfl) ?_
      refine G_X12_bodies C hP q_1105 dX12_body_31 ?_
      refine lv_iload_n hx hb dX12_body_34 rfl (lv_at hl 1 rfl) ?_
      obtain ⟨h5, hf⟩ := chk_some hf
      refine AS_X12_bodyKind C hP hD hS h5 dX12_body_35 (fun H locs hP hD hS => ?_)
      refine nameS hP hD hf (fun σ6 hP hD hf => ?_)
      refine lv_aload_n hx hb dX12_body_36 rfl (lv_at hl 0 rfl) ?_
      refine lv_dup hx hb dX12_body_37 rfl ?_
      refine G_X12_bodies C hP q_1105 dX12_body_38 ?_
      refine lv_iconst (v := 1) hx hb dX12_body_41 (by decide) ?_
      refine lv_iadd hx hb dX12_body_42 ?_
      refine S_X12_bodies C hP hD hS q_1105 dX12_body_43 (fun H locs hP hD hS => ?_)
      refine lv_aload_n hx hb dX12_body_46 rfl (lv_at hl 0 rfl) ?_
      refine G_X12_bodies C hP q_1105 dX12_body_47 ?_
      refine lv_iconst (v := 1) hx hb dX12_body_50 (by decide) ?_
      refine lv_isub hx hb dX12_body_51 ?_
      exact retI hQ hf dX12_body_52 hP hD hS
    · replace hf := ipos c4 hf
      refine lv_bipush (v := -3) hx hb dX12_body_23 (by decide) ?_
      exact retI hQ hf dX12_body_25 hP hD hS
  · replace hf := ipos c3 hf
    refine lv_iconst (v := -1) hx hb dX12_body_12 (by decide) ?_
    exact retI hQ hf dX12_body_13 hP hD hS
theorem dX12_act_0 : decode cX12_act 0 = .ok (.aload_n 0, 1) := by decide +kernel
theorem dX12_act_1 : decode cX12_act 1 = .ok (.iconst 0, 1) := by decide +kernel
theorem dX12_act_2 : decode cX12_act 2 = .ok (.putfield 310, 3) := by decide +kernel
theorem dX12_act_5 : decode cX12_act 5 = .ok (.aload_n 0, 1) := by decide +kernel
theorem dX12_act_6 : decode cX12_act 6 = .ok (.iload_n 1, 1) := by decide +kernel
theorem dX12_act_7 : decode cX12_act 7 = .ok (.invokevirtual 335, 3) := by decide +kernel
theorem dX12_act_10 : decode cX12_act 10 = .ok (.ifCond .ne 5, 3) := by decide +kernel
theorem dX12_act_13 : decode cX12_act 13 = .ok (.iconst 0, 1) := by decide +kernel
theorem dX12_act_14 : decode cX12_act 14 = .ok (.ireturn, 1) := by decide +kernel
theorem dX12_act_15 : decode cX12_act 15 = .ok (.aload_n 0, 1) := by decide +kernel
theorem dX12_act_16 : decode cX12_act 16 = .ok (.aload_n 0, 1) := by decide +kernel
theorem dX12_act_17 : decode cX12_act 17 = .ok (.getfield 58, 3) := by decide +kernel
theorem dX12_act_20 : decode cX12_act 20 = .ok (.iload_n 1, 1) := by decide +kernel
theorem dX12_act_21 : decode cX12_act 21 = .ok (.iaload, 1) := by decide +kernel
theorem dX12_act_22 : decode cX12_act 22 = .ok (.putfield 326, 3) := by decide +kernel
theorem dX12_act_25 : decode cX12_act 25 = .ok (.aload_n 0, 1) := by decide +kernel
theorem dX12_act_26 : decode cX12_act 26 = .ok (.iload_n 1, 1) := by decide +kernel
theorem dX12_act_27 : decode cX12_act 27 = .ok (.putfield 320, 3) := by decide +kernel
theorem dX12_act_30 : decode cX12_act 30 = .ok (.iload_n 2, 1) := by decide +kernel
theorem dX12_act_31 : decode cX12_act 31 = .ok (.tableswitch 69 0 3 #[29, 39, 49, 59], 29) := by decide +kernel
theorem dX12_act_60 : decode cX12_act 60 = .ok (.aload_n 0, 1) := by decide +kernel
theorem dX12_act_61 : decode cX12_act 61 = .ok (.aload_n 0, 1) := by decide +kernel
theorem dX12_act_62 : decode cX12_act 62 = .ok (.getfield 326, 3) := by decide +kernel
theorem dX12_act_65 : decode cX12_act 65 = .ok (.iload_n 3, 1) := by decide +kernel
theorem dX12_act_66 : decode cX12_act 66 = .ok (.invokevirtual 317, 3) := by decide +kernel
theorem dX12_act_69 : decode cX12_act 69 = .ok (.ireturn, 1) := by decide +kernel
theorem dX12_act_70 : decode cX12_act 70 = .ok (.aload_n 0, 1) := by decide +kernel
theorem dX12_act_71 : decode cX12_act 71 = .ok (.aload_n 0, 1) := by decide +kernel
theorem dX12_act_72 : decode cX12_act 72 = .ok (.getfield 326, 3) := by decide +kernel
theorem dX12_act_75 : decode cX12_act 75 = .ok (.iload_n 3, 1) := by decide +kernel
theorem dX12_act_76 : decode cX12_act 76 = .ok (.invokevirtual 323, 3) := by decide +kernel
theorem dX12_act_79 : decode cX12_act 79 = .ok (.ireturn, 1) := by decide +kernel
theorem dX12_act_80 : decode cX12_act 80 = .ok (.aload_n 0, 1) := by decide +kernel
theorem dX12_act_81 : decode cX12_act 81 = .ok (.aload_n 0, 1) := by decide +kernel
theorem dX12_act_82 : decode cX12_act 82 = .ok (.getfield 326, 3) := by decide +kernel
theorem dX12_act_85 : decode cX12_act 85 = .ok (.iload_n 3, 1) := by decide +kernel
theorem dX12_act_86 : decode cX12_act 86 = .ok (.invokevirtual 329, 3) := by decide +kernel
theorem dX12_act_89 : decode cX12_act 89 = .ok (.ireturn, 1) := by decide +kernel
theorem dX12_act_90 : decode cX12_act 90 = .ok (.aload_n 0, 1) := by decide +kernel
theorem dX12_act_91 : decode cX12_act 91 = .ok (.aload_n 0, 1) := by decide +kernel
theorem dX12_act_92 : decode cX12_act 92 = .ok (.getfield 326, 3) := by decide +kernel
theorem dX12_act_95 : decode cX12_act 95 = .ok (.iload_n 3, 1) := by decide +kernel
theorem dX12_act_96 : decode cX12_act 96 = .ok (.invokevirtual 332, 3) := by decide +kernel
theorem dX12_act_99 : decode cX12_act 99 = .ok (.ireturn, 1) := by decide +kernel
theorem dX12_act_100 : decode cX12_act 100 = .ok (.iconst 0, 1) := by decide +kernel
theorem dX12_act_101 : decode cX12_act 101 = .ok (.ireturn, 1) := by decide +kernel
def f_X12_act (σ : St) (p1 : Int32) (p2 : Int32) (p3 : Int32) : Option (Int32 × St) := bnd2 (f_X12_isBody (sI σ 636 0 (0 : Int32)) p1) (fun r2 σ3 => if r2 = 0 then (some ((0 : Int32), σ3)) else (chk (p1 < 0 ∨ 50 ≤ p1.toNatClampNeg) (bnd (sI (sI σ3 637 0 (σ3.2.2.1 634 0 p1.toNatClampNeg)) 638 0 p1) (fun σ6 => if p2 = 0 then (bnd2 (f_X12_saysAs σ6 (σ6.1 637 0) p3) (fun r9 σ10 => some (r9, σ10))) else (if p2 = 1 then (bnd2 (f_X12_hearsAs σ6 (σ6.1 637 0) p3) (fun r13 σ14 => some (r13, σ14))) else (if p2 = 2 then (bnd2 (f_X12_asksAs σ6 (σ6.1 637 0) p3) (fun r17 σ18 => some (r17, σ18))) else (if p2 = 3 then (bnd2 (f_X12_tellsAs σ6 (σ6.1 637 0) p3) (fun r21 σ22 => some (r21, σ22))) else (some ((0 : Int32), σ6)))))))))
set_option maxHeartbeats 4000000 in
set_option maxRecDepth 100000 in
theorem c_X12_act {l : Launch} {g : va_G} {ts : ClassId × ClassId × ClassId} {a : Nat → Nat} {σ : St} {p1 : Int32} {p2 : Int32} {p3 : Int32} {r : Int32} {σ' : St} (hf : f_X12_act σ p1 p2 p3 = some (r, σ')) : ConI l g ts (WM ts a) yX12_act cX12_act 4 (some .int) (rk 781 17213) σ [.ref (a 0), .int p1, .int p2, .int p3] r σ' := by
  refine ConI_mk .int rfl rfl rfl rfl (by decide) (Nat.le_of_ble_eq_true rfl) ?_
  intro p e s m below meth c A Q ls C hQ hP hD hS hl
  have C : FX p s m _ meth c RX12 cX12_act 4 g ts A := C
  have hx := C.1
  have hb := C.2.1
  have hown := C.2.2.2.1
  have hts := C.2.2.2.2.1
  have hl : lv_has ls 4 [(0, .ref (a 0)), (1, .int p1), (2, .int p2), (3, .int p3)] := hl
  rw [f_X12_act] at hf
  refine lv_aload_n hx hb dX12_act_0 rfl (lv_at hl 0 rfl) ?_
  refine lv_iconst (v := 0) hx hb dX12_act_1 (by decide) ?_
  refine S_X12_ran C hP hD hS q_1108 dX12_act_2 (fun H locs hP hD hS => ?_)
  refine lv_aload_n hx hb dX12_act_5 rfl (lv_at hl 0 rfl) ?_
  refine lv_iload_n hx hb dX12_act_6 rfl (lv_at hl 1 rfl) ?_
  obtain ⟨r2, σ3, h1, hf⟩ := bnd2_some hf
  refine vI [] C hP hD hS (c_X12_isBody h1) mv_X12_isBody q_1525 rv_X12 dX12_act_7 ⟨Nat.le_of_ble_eq_true rfl, Nat.le_of_ble_eq_true rfl⟩ ⟨Nat.zero_le _, Nat.zero_le _⟩ rfl rfl (Nat.le_of_ble_eq_true rfl) hl.1 (fun H locs hP hD hS => ?_)
  refine lv_if_ne (tgt := 15) hx hb dX12_act_10 (by decide) (fun c4 => ?_) (fun c4 => ?_)
  · replace hf := ineg c4 hf
    refine lv_aload_n hx hb dX12_act_15 rfl (lv_at hl 0 rfl) ?_
    refine lv_aload_n hx hb dX12_act_16 rfl (lv_at hl 0 rfl) ?_
    refine G_X12_bodyKind C hP q_1106 dX12_act_17 ?_
    refine lv_iload_n hx hb dX12_act_20 rfl (lv_at hl 1 rfl) ?_
    obtain ⟨h5, hf⟩ := chk_some hf
    refine AL_X12_bodyKind C hP h5 dX12_act_21 ?_
    refine S_X12_ownKind C hP hD hS q_1109 dX12_act_22 (fun H locs hP hD hS => ?_)
    refine lv_aload_n hx hb dX12_act_25 rfl (lv_at hl 0 rfl) ?_
    refine lv_iload_n hx hb dX12_act_26 rfl (lv_at hl 1 rfl) ?_
    refine S_X12_ownNumber C hP hD hS q_1110 dX12_act_27 (fun H locs hP hD hS => ?_)
    refine nameS hP hD hf (fun σ6 hP hD hf => ?_)
    refine lv_iload_n hx hb dX12_act_30 rfl (lv_at hl 2 rfl) ?_
    by_cases c7 : p2 = 0
    · replace hf := ipos c7 hf
      refine lv_tableIn (off := 29) (tgt := 60) hx hb dX12_act_31 (by rw [c7]; decide) (by rw [c7]; decide) (by rw [c7]; rfl) (by decide) ?_
      refine lv_aload_n hx hb dX12_act_60 rfl (lv_at hl 0 rfl) ?_
      refine lv_aload_n hx hb dX12_act_61 rfl (lv_at hl 0 rfl) ?_
      refine G_X12_ownKind C hP q_1109 dX12_act_62 ?_
      refine lv_iload_n hx hb dX12_act_65 rfl (lv_at hl 3 rfl) ?_
      obtain ⟨r9, σ10, h8, hf⟩ := bnd2_some hf
      refine vI [] C hP hD hS (c_X12_saysAs h8) mv_X12_saysAs q_1529 rv_X12 dX12_act_66 ⟨Nat.le_of_ble_eq_true rfl, Nat.le_of_ble_eq_true rfl⟩ ⟨Nat.zero_le _, Nat.zero_le _⟩ rfl rfl (Nat.le_of_ble_eq_true rfl) hl.1 (fun H locs hP hD hS => ?_)
      exact retI hQ hf dX12_act_69 hP hD hS
    · replace hf := ineg c7 hf
      by_cases c11 : p2 = 1
      · replace hf := ipos c11 hf
        refine lv_tableIn (off := 39) (tgt := 70) hx hb dX12_act_31 (by rw [c11]; decide) (by rw [c11]; decide) (by rw [c11]; rfl) (by decide) ?_
        refine lv_aload_n hx hb dX12_act_70 rfl (lv_at hl 0 rfl) ?_
        refine lv_aload_n hx hb dX12_act_71 rfl (lv_at hl 0 rfl) ?_
        refine G_X12_ownKind C hP q_1109 dX12_act_72 ?_
        refine lv_iload_n hx hb dX12_act_75 rfl (lv_at hl 3 rfl) ?_
        obtain ⟨r13, σ14, h12, hf⟩ := bnd2_some hf
        refine vI [] C hP hD hS (c_X12_hearsAs h12) mv_X12_hearsAs q_1537 rv_X12 dX12_act_76 ⟨Nat.le_of_ble_eq_true rfl, Nat.le_of_ble_eq_true rfl⟩ ⟨Nat.zero_le _, Nat.zero_le _⟩ rfl rfl (Nat.le_of_ble_eq_true rfl) hl.1 (fun H locs hP hD hS => ?_)
        exact retI hQ hf dX12_act_79 hP hD hS
      · replace hf := ineg c11 hf
        by_cases c15 : p2 = 2
        · replace hf := ipos c15 hf
          refine lv_tableIn (off := 49) (tgt := 80) hx hb dX12_act_31 (by rw [c15]; decide) (by rw [c15]; decide) (by rw [c15]; rfl) (by decide) ?_
          refine lv_aload_n hx hb dX12_act_80 rfl (lv_at hl 0 rfl) ?_
          refine lv_aload_n hx hb dX12_act_81 rfl (lv_at hl 0 rfl) ?_
          refine G_X12_ownKind C hP q_1109 dX12_act_82 ?_
          refine lv_iload_n hx hb dX12_act_85 rfl (lv_at hl 3 rfl) ?_
          obtain ⟨r17, σ18, h16, hf⟩ := bnd2_some hf
          refine vI [] C hP hD hS (c_X12_asksAs h16) mv_X12_asksAs q_1541 rv_X12 dX12_act_86 ⟨Nat.le_of_ble_eq_true rfl, Nat.le_of_ble_eq_true rfl⟩ ⟨Nat.zero_le _, Nat.zero_le _⟩ rfl rfl (Nat.le_of_ble_eq_true rfl) hl.1 (fun H locs hP hD hS => ?_)
          exact retI hQ hf dX12_act_89 hP hD hS
        · replace hf := ineg c15 hf
          by_cases c19 : p2 = 3
          · replace hf := ipos c19 hf
            refine lv_tableIn (off := 59) (tgt := 90) hx hb dX12_act_31 (by rw [c19]; decide) (by rw [c19]; decide) (by rw [c19]; rfl) (by decide) ?_
            refine lv_aload_n hx hb dX12_act_90 rfl (lv_at hl 0 rfl) ?_
            refine lv_aload_n hx hb dX12_act_91 rfl (lv_at hl 0 rfl) ?_
            refine G_X12_ownKind C hP q_1109 dX12_act_92 ?_
            refine lv_iload_n hx hb dX12_act_95 rfl (lv_at hl 3 rfl) ?_
            obtain ⟨r21, σ22, h20, hf⟩ := bnd2_some hf
            refine vI [] C hP hD hS (c_X12_tellsAs h20) mv_X12_tellsAs q_1545 rv_X12 dX12_act_96 ⟨Nat.le_of_ble_eq_true rfl, Nat.le_of_ble_eq_true rfl⟩ ⟨Nat.zero_le _, Nat.zero_le _⟩ rfl rfl (Nat.le_of_ble_eq_true rfl) hl.1 (fun H locs hP hD hS => ?_)
            exact retI hQ hf dX12_act_99 hP hD hS
          · replace hf := ineg c19 hf
            refine lv_tableOut (tgt := 100) hx hb dX12_act_31 (by have uc7 := lv_neT c7 (a := 0) (by decide); have uc11 := lv_neT c11 (a := 1) (by decide); have uc15 := lv_neT c15 (a := 2) (by decide); have uc19 := lv_neT c19 (a := 3) (by decide); omega) (by decide) ?_
            refine lv_iconst (v := 0) hx hb dX12_act_100 (by decide) ?_
            exact retI hQ hf dX12_act_101 hP hD hS
  · replace hf := ipos c4 hf
    refine lv_iconst (v := 0) hx hb dX12_act_13 (by decide) ?_
    exact retI hQ hf dX12_act_14 hP hD hS
theorem dX12_trace_0 : decode cX12_trace 0 = .ok (.iload_n 1, 1) := by decide +kernel
theorem dX12_trace_1 : decode cX12_trace 1 = .ok (.ifCond .lt 26, 3) := by decide +kernel
theorem dX12_trace_4 : decode cX12_trace 4 = .ok (.iload_n 1, 1) := by decide +kernel
theorem dX12_trace_5 : decode cX12_trace 5 = .ok (.aload_n 0, 1) := by decide +kernel
theorem dX12_trace_6 : decode cX12_trace 6 = .ok (.getfield 310, 3) := by decide +kernel
theorem dX12_trace_9 : decode cX12_trace 9 = .ok (.if_icmp .ge 18, 3) := by decide +kernel
theorem dX12_trace_12 : decode cX12_trace 12 = .ok (.iload_n 1, 1) := by decide +kernel
theorem dX12_trace_13 : decode cX12_trace 13 = .ok (.bipush 24, 2) := by decide +kernel
theorem dX12_trace_15 : decode cX12_trace 15 = .ok (.if_icmp .ge 12, 3) := by decide +kernel
theorem dX12_trace_18 : decode cX12_trace 18 = .ok (.aload_n 0, 1) := by decide +kernel
theorem dX12_trace_19 : decode cX12_trace 19 = .ok (.getfield 61, 3) := by decide +kernel
theorem dX12_trace_22 : decode cX12_trace 22 = .ok (.iload_n 1, 1) := by decide +kernel
theorem dX12_trace_23 : decode cX12_trace 23 = .ok (.iaload, 1) := by decide +kernel
theorem dX12_trace_24 : decode cX12_trace 24 = .ok (.goto 4, 3) := by decide +kernel
theorem dX12_trace_27 : decode cX12_trace 27 = .ok (.iconst (-1), 1) := by decide +kernel
theorem dX12_trace_28 : decode cX12_trace 28 = .ok (.ireturn, 1) := by decide +kernel
def f_X12_trace (σ : St) (p1 : Int32) : Option (Int32 × St) := if p1 < 0 then (some ((-1 : Int32), σ)) else (if σ.1 636 0 ≤ p1 then (some ((-1 : Int32), σ)) else (if (24 : Int32) ≤ p1 then (some ((-1 : Int32), σ)) else (chk (p1 < 0 ∨ 24 ≤ p1.toNatClampNeg) (some (σ.2.2.1 635 0 p1.toNatClampNeg, σ)))))
set_option maxHeartbeats 4000000 in
set_option maxRecDepth 100000 in
theorem c_X12_trace {l : Launch} {g : va_G} {ts : ClassId × ClassId × ClassId} {a : Nat → Nat} {σ : St} {p1 : Int32} {r : Int32} {σ' : St} (hf : f_X12_trace σ p1 = some (r, σ')) : ConI l g ts (WM ts a) yX12_trace cX12_trace 2 (some .int) (rk 0 0) σ [.ref (a 0), .int p1] r σ' := by
  refine ConI_mk .int rfl rfl rfl rfl (by decide) (Nat.le_of_ble_eq_true rfl) ?_
  intro p e s m below meth c A Q ls C hQ hP hD hS hl
  have C : FX p s m _ meth c RX12 cX12_trace 2 g ts A := C
  have hx := C.1
  have hb := C.2.1
  have hown := C.2.2.2.1
  have hts := C.2.2.2.2.1
  have hl : lv_has ls 2 [(0, .ref (a 0)), (1, .int p1)] := hl
  rw [f_X12_trace] at hf
  refine lv_iload_n hx hb dX12_trace_0 rfl (lv_at hl 1 rfl) ?_
  refine lv_if_lt (tgt := 27) hx hb dX12_trace_1 (by decide) (fun c1 => ?_) (fun c1 => ?_)
  · replace hf := ipos c1 hf
    refine lv_iconst (v := -1) hx hb dX12_trace_27 (by decide) ?_
    exact retI hQ hf dX12_trace_28 hP hD hS
  · replace hf := ineg c1 hf
    refine lv_iload_n hx hb dX12_trace_4 rfl (lv_at hl 1 rfl) ?_
    refine lv_aload_n hx hb dX12_trace_5 rfl (lv_at hl 0 rfl) ?_
    refine G_X12_ran C hP q_1108 dX12_trace_6 ?_
    refine lv_icmp_ge (tgt := 27) hx hb dX12_trace_9 (by decide) (fun c2 => ?_) (fun c2 => ?_)
    · replace hf := ipos c2 hf
      refine lv_iconst (v := -1) hx hb dX12_trace_27 (by decide) ?_
      exact retI hQ hf dX12_trace_28 hP hD hS
    · replace hf := ineg c2 hf
      refine lv_iload_n hx hb dX12_trace_12 rfl (lv_at hl 1 rfl) ?_
      refine lv_bipush (v := 24) hx hb dX12_trace_13 (by decide) ?_
      refine lv_icmp_ge (tgt := 27) hx hb dX12_trace_15 (by decide) (fun c3 => ?_) (fun c3 => ?_)
      · replace hf := ipos c3 hf
        refine lv_iconst (v := -1) hx hb dX12_trace_27 (by decide) ?_
        exact retI hQ hf dX12_trace_28 hP hD hS
      · replace hf := ineg c3 hf
        refine lv_aload_n hx hb dX12_trace_18 rfl (lv_at hl 0 rfl) ?_
        refine G_X12_trace C hP q_1107 dX12_trace_19 ?_
        refine lv_iload_n hx hb dX12_trace_22 rfl (lv_at hl 1 rfl) ?_
        obtain ⟨h4, hf⟩ := chk_some hf
        refine AL_X12_trace C hP h4 dX12_trace_23 ?_
        refine lv_goto (tgt := 28) hx hb dX12_trace_24 (by decide) ?_
        exact retI hQ hf dX12_trace_28 hP hD hS
theorem dX12_keep_0 : decode cX12_keep 0 = .ok (.iload_n 1, 1) := by decide +kernel
theorem dX12_keep_1 : decode cX12_keep 1 = .ok (.invokestatic 98, 3) := by decide +kernel
theorem dX12_keep_4 : decode cX12_keep 4 = .ok (.ifCond .eq 16, 3) := by decide +kernel
theorem dX12_keep_7 : decode cX12_keep 7 = .ok (.iload_n 2, 1) := by decide +kernel
theorem dX12_keep_8 : decode cX12_keep 8 = .ok (.iconst (-1), 1) := by decide +kernel
theorem dX12_keep_9 : decode cX12_keep 9 = .ok (.if_icmp .eq 13, 3) := by decide +kernel
theorem dX12_keep_12 : decode cX12_keep 12 = .ok (.aload_n 0, 1) := by decide +kernel
theorem dX12_keep_13 : decode cX12_keep 13 = .ok (.iload_n 2, 1) := by decide +kernel
theorem dX12_keep_14 : decode cX12_keep 14 = .ok (.invokevirtual 335, 3) := by decide +kernel
theorem dX12_keep_17 : decode cX12_keep 17 = .ok (.ifCond .ne 5, 3) := by decide +kernel
theorem dX12_keep_20 : decode cX12_keep 20 = .ok (.iconst (-1), 1) := by decide +kernel
theorem dX12_keep_21 : decode cX12_keep 21 = .ok (.ireturn, 1) := by decide +kernel
theorem dX12_keep_22 : decode cX12_keep 22 = .ok (.aload_n 0, 1) := by decide +kernel
theorem dX12_keep_23 : decode cX12_keep 23 = .ok (.getfield 64, 3) := by decide +kernel
theorem dX12_keep_26 : decode cX12_keep 26 = .ok (.iload_n 1, 1) := by decide +kernel
theorem dX12_keep_27 : decode cX12_keep 27 = .ok (.iload_n 2, 1) := by decide +kernel
theorem dX12_keep_28 : decode cX12_keep 28 = .ok (.iastore, 1) := by decide +kernel
theorem dX12_keep_29 : decode cX12_keep 29 = .ok (.aload_n 0, 1) := by decide +kernel
theorem dX12_keep_30 : decode cX12_keep 30 = .ok (.getfield 67, 3) := by decide +kernel
theorem dX12_keep_33 : decode cX12_keep 33 = .ok (.iload_n 1, 1) := by decide +kernel
theorem dX12_keep_34 : decode cX12_keep 34 = .ok (.iconst 0, 1) := by decide +kernel
theorem dX12_keep_35 : decode cX12_keep 35 = .ok (.iastore, 1) := by decide +kernel
theorem dX12_keep_36 : decode cX12_keep 36 = .ok (.iconst 1, 1) := by decide +kernel
theorem dX12_keep_37 : decode cX12_keep 37 = .ok (.ireturn, 1) := by decide +kernel
def f_X12_keep_b22 (σ : St) (x1 : Int32) (x2 : Int32) : Option (Int32 × St) := chk (x1 < 0 ∨ 6 ≤ x1.toNatClampNeg) (bnd (sA σ 639 0 (upd (σ.2.2.1 639 0) x1.toNatClampNeg x2)) (fun σ10 => chk (x1 < 0 ∨ 6 ≤ x1.toNatClampNeg) (bnd (sA σ10 640 0 (upd (σ10.2.2.1 640 0) x1.toNatClampNeg (0 : Int32))) (fun σ12 => some ((1 : Int32), σ12)))))
def f_X12_keep (σ : St) (p1 : Int32) (p2 : Int32) : Option (Int32 × St) := bnd1 (f_X12_isShelf p1) (fun r2 => if r2 = 0 then (some ((-1 : Int32), σ)) else (if p2 = (-1 : Int32) then (f_X12_keep_b22 σ p1 p2) else (bnd2 (f_X12_isBody σ p2) (fun r6 σ7 => if r6 = 0 then (some ((-1 : Int32), σ7)) else (f_X12_keep_b22 σ7 p1 p2)))))
set_option maxHeartbeats 4000000 in
set_option maxRecDepth 100000 in
theorem w_X12_keep_b22 {p : Program} {l : Launch} {e : Env} {s : State} {m : MethodId} {args : Array Value} {below : List Frame} {meth : Method} {c : Code} {g : va_G} {ts : ClassId × ClassId × ClassId} {A : Nat → Prop} {Q : State → Prop} {a : Nat → Nat} {r : Int32} {σ' : St} (C : FX p s m args meth c RX12 cX12_keep 3 g ts A) (hQ : RetI p l e (rk 2 46) s m args below meth c cX12_keep g (WM ts a) A r σ' Q) : ∀ (σ : St) (x1 : Int32) (x2 : Int32) (H : Heap) (locs : List Loc) (ls : Array Slot), f_X12_keep_b22 σ x1 x2 = some (r, σ') → va_P g classes (WM ts a σ) H → va_D A (WM ts a σ) → va_S A s.heap H locs → lv_has ls 3 [(0, .ref (a 0)), (1, .int x1), (2, .int x2)] → W p l e (rk 2 46) s m args below meth c H locs 0 0 Q (F0 m 22 ls []) := by
  have hx := C.1
  have hb := C.2.1
  have hown := C.2.2.2.1
  have hts := C.2.2.2.2.1
  intro σ x1 x2 H locs ls hf hP hD hS hl
  rw [f_X12_keep_b22] at hf
  refine lv_aload_n hx hb dX12_keep_22 rfl (lv_at hl 0 rfl) ?_
  refine G_X12_shelf C hP q_1111 dX12_keep_23 ?_
  refine lv_iload_n hx hb dX12_keep_26 rfl (lv_at hl 1 rfl) ?_
  refine lv_iload_n hx hb dX12_keep_27 rfl (lv_at hl 2 rfl) ?_
  obtain ⟨h9, hf⟩ := chk_some hf
  refine AS_X12_shelf C hP hD hS h9 dX12_keep_28 (fun H locs hP hD hS => ?_)
  refine nameS hP hD hf (fun σ10 hP hD hf => ?_)
  refine lv_aload_n hx hb dX12_keep_29 rfl (lv_at hl 0 rfl) ?_
  refine G_X12_many C hP q_1112 dX12_keep_30 ?_
  refine lv_iload_n hx hb dX12_keep_33 rfl (lv_at hl 1 rfl) ?_
  refine lv_iconst (v := 0) hx hb dX12_keep_34 (by decide) ?_
  obtain ⟨h11, hf⟩ := chk_some hf
  refine AS_X12_many C hP hD hS h11 dX12_keep_35 (fun H locs hP hD hS => ?_)
  refine nameS hP hD hf (fun σ12 hP hD hf => ?_)
  refine lv_iconst (v := 1) hx hb dX12_keep_36 (by decide) ?_
  exact retI hQ hf dX12_keep_37 hP hD hS
set_option maxHeartbeats 4000000 in
set_option maxRecDepth 100000 in
theorem c_X12_keep {l : Launch} {g : va_G} {ts : ClassId × ClassId × ClassId} {a : Nat → Nat} {σ : St} {p1 : Int32} {p2 : Int32} {r : Int32} {σ' : St} (hf : f_X12_keep σ p1 p2 = some (r, σ')) : ConI l g ts (WM ts a) yX12_keep cX12_keep 3 (some .int) (rk 2 46) σ [.ref (a 0), .int p1, .int p2] r σ' := by
  refine ConI_mk .int rfl rfl rfl rfl (by decide) (Nat.le_of_ble_eq_true rfl) ?_
  intro p e s m below meth c A Q ls C hQ hP hD hS hl
  have C : FX p s m _ meth c RX12 cX12_keep 3 g ts A := C
  have hx := C.1
  have hb := C.2.1
  have hown := C.2.2.2.1
  have hts := C.2.2.2.2.1
  have hl : lv_has ls 3 [(0, .ref (a 0)), (1, .int p1), (2, .int p2)] := hl
  rw [f_X12_keep] at hf
  refine lv_iload_n hx hb dX12_keep_0 rfl (lv_at hl 1 rfl) ?_
  obtain ⟨r2, h1, hf⟩ := bnd1_some hf
  refine tI [] C hP hD hS (c_X12_isShelf h1) ms_X12_isShelf q_1214 dX12_keep_1 ⟨Nat.le_of_ble_eq_true rfl, Nat.le_of_ble_eq_true rfl⟩ ⟨Nat.zero_le _, Nat.zero_le _⟩ rfl rfl (Nat.le_of_ble_eq_true rfl) hl.1 (fun H locs hP hD hS => ?_)
  refine lv_if_eq (tgt := 20) hx hb dX12_keep_4 (by decide) (fun c3 => ?_) (fun c3 => ?_)
  · replace hf := ipos c3 hf
    refine lv_iconst (v := -1) hx hb dX12_keep_20 (by decide) ?_
    exact retI hQ hf dX12_keep_21 hP hD hS
  · replace hf := ineg c3 hf
    refine lv_iload_n hx hb dX12_keep_7 rfl (lv_at hl 2 rfl) ?_
    refine lv_iconst (v := -1) hx hb dX12_keep_8 (by decide) ?_
    refine lv_icmp_eq (tgt := 22) hx hb dX12_keep_9 (by decide) (fun c4 => ?_) (fun c4 => ?_)
    · replace hf := ipos c4 hf
      exact w_X12_keep_b22 C hQ _ _ _ _ _ _ hf hP hD hS (lv_sub hl [0, 1, 2] rfl)
    · replace hf := ineg c4 hf
      refine lv_aload_n hx hb dX12_keep_12 rfl (lv_at hl 0 rfl) ?_
      refine lv_iload_n hx hb dX12_keep_13 rfl (lv_at hl 2 rfl) ?_
      obtain ⟨r6, σ7, h5, hf⟩ := bnd2_some hf
      refine vI [] C hP hD hS (c_X12_isBody h5) mv_X12_isBody q_1525 rv_X12 dX12_keep_14 ⟨Nat.le_of_ble_eq_true rfl, Nat.le_of_ble_eq_true rfl⟩ ⟨Nat.zero_le _, Nat.zero_le _⟩ rfl rfl (Nat.le_of_ble_eq_true rfl) hl.1 (fun H locs hP hD hS => ?_)
      refine lv_if_ne (tgt := 22) hx hb dX12_keep_17 (by decide) (fun c8 => ?_) (fun c8 => ?_)
      · replace hf := ineg c8 hf
        exact w_X12_keep_b22 C hQ _ _ _ _ _ _ hf hP hD hS (lv_sub hl [0, 1, 2] rfl)
      · replace hf := ipos c8 hf
        refine lv_iconst (v := -1) hx hb dX12_keep_20 (by decide) ?_
        exact retI hQ hf dX12_keep_21 hP hD hS
theorem dX12_row_0 : decode cX12_row 0 = .ok (.iload_n 1, 1) := by decide +kernel
theorem dX12_row_1 : decode cX12_row 1 = .ok (.invokestatic 98, 3) := by decide +kernel
theorem dX12_row_4 : decode cX12_row 4 = .ok (.ifCond .eq 21, 3) := by decide +kernel
theorem dX12_row_7 : decode cX12_row 7 = .ok (.iload_n 2, 1) := by decide +kernel
theorem dX12_row_8 : decode cX12_row 8 = .ok (.i2l, 1) := by decide +kernel
theorem dX12_row_9 : decode cX12_row 9 = .ok (.lconst 0, 1) := by decide +kernel
theorem dX12_row_10 : decode cX12_row 10 = .ok (.ldc2_w 338, 3) := by decide +kernel
theorem dX12_row_13 : decode cX12_row 13 = .ok (.invokestatic 91, 3) := by decide +kernel
theorem dX12_row_16 : decode cX12_row 16 = .ok (.ifCond .eq 9, 3) := by decide +kernel
theorem dX12_row_19 : decode cX12_row 19 = .ok (.iload_n 3, 1) := by decide +kernel
theorem dX12_row_20 : decode cX12_row 20 = .ok (.bipush 60, 2) := by decide +kernel
theorem dX12_row_22 : decode cX12_row 22 = .ok (.if_icmp .le 5, 3) := by decide +kernel
theorem dX12_row_25 : decode cX12_row 25 = .ok (.iconst (-1), 1) := by decide +kernel
theorem dX12_row_26 : decode cX12_row 26 = .ok (.ireturn, 1) := by decide +kernel
theorem dX12_row_27 : decode cX12_row 27 = .ok (.iload_n 3, 1) := by decide +kernel
theorem dX12_row_28 : decode cX12_row 28 = .ok (.ifCond .ge 6, 3) := by decide +kernel
theorem dX12_row_31 : decode cX12_row 31 = .ok (.bipush (-14), 2) := by decide +kernel
theorem dX12_row_33 : decode cX12_row 33 = .ok (.ireturn, 1) := by decide +kernel
theorem dX12_row_34 : decode cX12_row 34 = .ok (.aload_n 0, 1) := by decide +kernel
theorem dX12_row_35 : decode cX12_row 35 = .ok (.getfield 64, 3) := by decide +kernel
theorem dX12_row_38 : decode cX12_row 38 = .ok (.iload_n 1, 1) := by decide +kernel
theorem dX12_row_39 : decode cX12_row 39 = .ok (.bipush 50, 2) := by decide +kernel
theorem dX12_row_41 : decode cX12_row 41 = .ok (.iload_n 2, 1) := by decide +kernel
theorem dX12_row_42 : decode cX12_row 42 = .ok (.iadd, 1) := by decide +kernel
theorem dX12_row_43 : decode cX12_row 43 = .ok (.iastore, 1) := by decide +kernel
theorem dX12_row_44 : decode cX12_row 44 = .ok (.aload_n 0, 1) := by decide +kernel
theorem dX12_row_45 : decode cX12_row 45 = .ok (.getfield 67, 3) := by decide +kernel
theorem dX12_row_48 : decode cX12_row 48 = .ok (.iload_n 1, 1) := by decide +kernel
theorem dX12_row_49 : decode cX12_row 49 = .ok (.iload_n 3, 1) := by decide +kernel
theorem dX12_row_50 : decode cX12_row 50 = .ok (.iastore, 1) := by decide +kernel
theorem dX12_row_51 : decode cX12_row 51 = .ok (.bipush 60, 2) := by decide +kernel
theorem dX12_row_53 : decode cX12_row 53 = .ok (.iload_n 1, 1) := by decide +kernel
theorem dX12_row_54 : decode cX12_row 54 = .ok (.imul, 1) := by decide +kernel
theorem dX12_row_55 : decode cX12_row 55 = .ok (.istore 4, 2) := by decide +kernel
theorem dX12_row_57 : decode cX12_row 57 = .ok (.iload 4, 2) := by decide +kernel
theorem dX12_row_59 : decode cX12_row 59 = .ok (.bipush 60, 2) := by decide +kernel
theorem dX12_row_61 : decode cX12_row 61 = .ok (.iload_n 1, 1) := by decide +kernel
theorem dX12_row_62 : decode cX12_row 62 = .ok (.imul, 1) := by decide +kernel
theorem dX12_row_63 : decode cX12_row 63 = .ok (.bipush 60, 2) := by decide +kernel
theorem dX12_row_65 : decode cX12_row 65 = .ok (.iadd, 1) := by decide +kernel
theorem dX12_row_66 : decode cX12_row 66 = .ok (.if_icmp .ge 17, 3) := by decide +kernel
theorem dX12_row_69 : decode cX12_row 69 = .ok (.aload_n 0, 1) := by decide +kernel
theorem dX12_row_70 : decode cX12_row 70 = .ok (.getfield 70, 3) := by decide +kernel
theorem dX12_row_73 : decode cX12_row 73 = .ok (.iload 4, 2) := by decide +kernel
theorem dX12_row_75 : decode cX12_row 75 = .ok (.lconst 0, 1) := by decide +kernel
theorem dX12_row_76 : decode cX12_row 76 = .ok (.lastore, 1) := by decide +kernel
theorem dX12_row_77 : decode cX12_row 77 = .ok (.iinc 4 1, 3) := by decide +kernel
theorem dX12_row_80 : decode cX12_row 80 = .ok (.goto (-23), 3) := by decide +kernel
theorem dX12_row_83 : decode cX12_row 83 = .ok (.iconst 1, 1) := by decide +kernel
theorem dX12_row_84 : decode cX12_row 84 = .ok (.ireturn, 1) := by decide +kernel
def f_X12_row_b57 : Nat → St → Int32 → Int32 → Option (Int32 × St)
  | 0, _, _, _ => none
  | n + 1, σ, x1, x4 => if ((60 : Int32) * x1) + (60 : Int32) ≤ x4 then (some ((1 : Int32), σ)) else (chk (x4 < 0 ∨ 360 ≤ x4.toNatClampNeg) (bnd (sL σ 641 0 (vp_updL (σ.2.2.2.1 641 0) x4.toNatClampNeg (0 : Int64))) (fun σ16 => bnd (x4 + 1) (fun v17 => f_X12_row_b57 n σ16 x1 v17))))
def f_X12_row (σ : St) (p1 : Int32) (p2 : Int32) (p3 : Int32) : Option (Int32 × St) := bnd1 (f_X12_isShelf p1) (fun r2 => if r2 = 0 then (some ((-1 : Int32), σ)) else (bnd1 (f_X12_within ((p2 : Int32).toInt64) (0 : Int64) (4 : Int64)) (fun r5 => if r5 = 0 then (some ((-1 : Int32), σ)) else (if p3 ≤ (60 : Int32) then (if 0 ≤ p3 then (chk (p1 < 0 ∨ 6 ≤ p1.toNatClampNeg) (bnd (sA σ 639 0 (upd (σ.2.2.1 639 0) p1.toNatClampNeg ((50 : Int32) + p2))) (fun σ10 => chk (p1 < 0 ∨ 6 ≤ p1.toNatClampNeg) (bnd (sA σ10 640 0 (upd (σ10.2.2.1 640 0) p1.toNatClampNeg p3)) (fun σ12 => bnd ((60 : Int32) * p1) (fun v13 => f_X12_row_b57 256 σ12 p1 v13)))))) else (some ((-14 : Int32), σ))) else (some ((-1 : Int32), σ))))))
set_option maxHeartbeats 4000000 in
set_option maxRecDepth 100000 in
theorem w_X12_row_b57 {p : Program} {l : Launch} {e : Env} {s : State} {m : MethodId} {args : Array Value} {below : List Frame} {meth : Method} {c : Code} {g : va_G} {ts : ClassId × ClassId × ClassId} {A : Nat → Prop} {Q : State → Prop} {a : Nat → Nat} {r : Int32} {σ' : St} (C : FX p s m args meth c RX12 cX12_row 5 g ts A) (hQ : RetI p l e (rk 2 45) s m args below meth c cX12_row g (WM ts a) A r σ' Q) : ∀ (n : Nat) (σ : St) (x1 : Int32) (x4 : Int32) (H : Heap) (locs : List Loc) (ls : Array Slot), f_X12_row_b57 n σ x1 x4 = some (r, σ') → va_P g classes (WM ts a σ) H → va_D A (WM ts a σ) → va_S A s.heap H locs → lv_has ls 5 [(0, .ref (a 0)), (1, .int x1), (4, .int x4)] → W p l e (rk 2 45) s m args below meth c H locs 0 0 Q (F0 m 57 ls []) := by
  have hx := C.1
  have hb := C.2.1
  have hown := C.2.2.2.1
  have hts := C.2.2.2.2.1
  intro n
  induction n with
  | zero =>
    intro σ x1 x4 H locs ls hf
    cases hf
  | succ n ih =>
    intro σ x1 x4 H locs ls hf hP hD hS hl
    rw [f_X12_row_b57] at hf
    refine lv_iload hx hb dX12_row_57 (lv_at hl 2 rfl) ?_
    refine lv_bipush (v := 60) hx hb dX12_row_59 (by decide) ?_
    refine lv_iload_n hx hb dX12_row_61 rfl (lv_at hl 1 rfl) ?_
    refine lv_imul hx hb dX12_row_62 ?_
    refine lv_bipush (v := 60) hx hb dX12_row_63 (by decide) ?_
    refine lv_iadd hx hb dX12_row_65 ?_
    refine lv_icmp_ge (tgt := 83) hx hb dX12_row_66 (by decide) (fun c14 => ?_) (fun c14 => ?_)
    · replace hf := ipos c14 hf
      refine lv_iconst (v := 1) hx hb dX12_row_83 (by decide) ?_
      exact retI hQ hf dX12_row_84 hP hD hS
    · replace hf := ineg c14 hf
      refine lv_aload_n hx hb dX12_row_69 rfl (lv_at hl 0 rfl) ?_
      refine G_X12_items C hP q_1113 dX12_row_70 ?_
      refine lv_iload hx hb dX12_row_73 (lv_at hl 2 rfl) ?_
      refine lv_lconst (v := 0) hx hb dX12_row_75 (by decide) ?_
      obtain ⟨h15, hf⟩ := chk_some hf
      refine AS_X12_items C hP hD hS h15 dX12_row_76 (fun H locs hP hD hS => ?_)
      refine nameS hP hD hf (fun σ16 hP hD hf => ?_)
      obtain ⟨v17, ev17⟩ : ∃ z : Int32, z = x4 + 1 := ⟨_, rfl⟩
      replace hf := bnd_at ev17 hf
      refine lv_iinc (v := v17) (lv' := [(4, .int v17), (0, .ref (a 0)), (1, .int x1)]) hx hb dX12_row_77 hl (k := 2) rfl (by rw [ev17]; rfl) (by decide) rfl (fun ls hl => ?_)
      refine lv_goto (tgt := 57) hx hb dX12_row_80 (by decide) ?_
      exact ih _ _ _ _ _ _ hf hP hD hS (lv_sub hl [1, 2, 0] rfl)
set_option maxHeartbeats 4000000 in
set_option maxRecDepth 100000 in
theorem c_X12_row {l : Launch} {g : va_G} {ts : ClassId × ClassId × ClassId} {a : Nat → Nat} {σ : St} {p1 : Int32} {p2 : Int32} {p3 : Int32} {r : Int32} {σ' : St} (hf : f_X12_row σ p1 p2 p3 = some (r, σ')) : ConI l g ts (WM ts a) yX12_row cX12_row 5 (some .int) (rk 2 45) σ [.ref (a 0), .int p1, .int p2, .int p3] r σ' := by
  refine ConI_mk .int rfl rfl rfl rfl (by decide) (Nat.le_of_ble_eq_true rfl) ?_
  intro p e s m below meth c A Q ls C hQ hP hD hS hl
  have C : FX p s m _ meth c RX12 cX12_row 5 g ts A := C
  have hx := C.1
  have hb := C.2.1
  have hown := C.2.2.2.1
  have hts := C.2.2.2.2.1
  have hl : lv_has ls 5 [(0, .ref (a 0)), (1, .int p1), (2, .int p2), (3, .int p3)] := hl
  rw [f_X12_row] at hf
  refine lv_iload_n hx hb dX12_row_0 rfl (lv_at hl 1 rfl) ?_
  obtain ⟨r2, h1, hf⟩ := bnd1_some hf
  refine tI [] C hP hD hS (c_X12_isShelf h1) ms_X12_isShelf q_1214 dX12_row_1 ⟨Nat.le_of_ble_eq_true rfl, Nat.le_of_ble_eq_true rfl⟩ ⟨Nat.zero_le _, Nat.zero_le _⟩ rfl rfl (Nat.le_of_ble_eq_true rfl) hl.1 (fun H locs hP hD hS => ?_)
  refine lv_if_eq (tgt := 25) hx hb dX12_row_4 (by decide) (fun c3 => ?_) (fun c3 => ?_)
  · replace hf := ipos c3 hf
    refine lv_iconst (v := -1) hx hb dX12_row_25 (by decide) ?_
    exact retI hQ hf dX12_row_26 hP hD hS
  · replace hf := ineg c3 hf
    refine lv_iload_n hx hb dX12_row_7 rfl (lv_at hl 2 rfl) ?_
    refine lv_i2l (v := (p2 : Int32).toInt64) hx hb dX12_row_8 rfl ?_
    refine lv_lconst (v := 0) hx hb dX12_row_9 (by decide) ?_
    refine lv_ldc2 hx hb hown (hts _ q_1561) dX12_row_10 ?_
    obtain ⟨r5, h4, hf⟩ := bnd1_some hf
    refine tI [] C hP hD hS (c_X12_within h4) ms_X12_within q_1218 dX12_row_13 ⟨Nat.le_of_ble_eq_true rfl, Nat.le_of_ble_eq_true rfl⟩ ⟨Nat.zero_le _, Nat.zero_le _⟩ rfl rfl (Nat.le_of_ble_eq_true rfl) hl.1 (fun H locs hP hD hS => ?_)
    refine lv_if_eq (tgt := 25) hx hb dX12_row_16 (by decide) (fun c6 => ?_) (fun c6 => ?_)
    · replace hf := ipos c6 hf
      refine lv_iconst (v := -1) hx hb dX12_row_25 (by decide) ?_
      exact retI hQ hf dX12_row_26 hP hD hS
    · replace hf := ineg c6 hf
      refine lv_iload_n hx hb dX12_row_19 rfl (lv_at hl 3 rfl) ?_
      refine lv_bipush (v := 60) hx hb dX12_row_20 (by decide) ?_
      refine lv_icmp_le (tgt := 27) hx hb dX12_row_22 (by decide) (fun c7 => ?_) (fun c7 => ?_)
      · replace hf := ipos c7 hf
        refine lv_iload_n hx hb dX12_row_27 rfl (lv_at hl 3 rfl) ?_
        refine lv_if_ge (tgt := 34) hx hb dX12_row_28 (by decide) (fun c8 => ?_) (fun c8 => ?_)
        · replace hf := ipos c8 hf
          refine lv_aload_n hx hb dX12_row_34 rfl (lv_at hl 0 rfl) ?_
          refine G_X12_shelf C hP q_1111 dX12_row_35 ?_
          refine lv_iload_n hx hb dX12_row_38 rfl (lv_at hl 1 rfl) ?_
          refine lv_bipush (v := 50) hx hb dX12_row_39 (by decide) ?_
          refine lv_iload_n hx hb dX12_row_41 rfl (lv_at hl 2 rfl) ?_
          refine lv_iadd hx hb dX12_row_42 ?_
          obtain ⟨h9, hf⟩ := chk_some hf
          refine AS_X12_shelf C hP hD hS h9 dX12_row_43 (fun H locs hP hD hS => ?_)
          refine nameS hP hD hf (fun σ10 hP hD hf => ?_)
          refine lv_aload_n hx hb dX12_row_44 rfl (lv_at hl 0 rfl) ?_
          refine G_X12_many C hP q_1112 dX12_row_45 ?_
          refine lv_iload_n hx hb dX12_row_48 rfl (lv_at hl 1 rfl) ?_
          refine lv_iload_n hx hb dX12_row_49 rfl (lv_at hl 3 rfl) ?_
          obtain ⟨h11, hf⟩ := chk_some hf
          refine AS_X12_many C hP hD hS h11 dX12_row_50 (fun H locs hP hD hS => ?_)
          refine nameS hP hD hf (fun σ12 hP hD hf => ?_)
          refine lv_bipush (v := 60) hx hb dX12_row_51 (by decide) ?_
          refine lv_iload_n hx hb dX12_row_53 rfl (lv_at hl 1 rfl) ?_
          refine lv_imul hx hb dX12_row_54 ?_
          refine lv_topi (fun v13 ev13 => ?_)
          replace hf := bnd_at ev13 hf
          refine lv_istore (lv' := [(4, .int v13), (0, .ref (a 0)), (1, .int p1), (2, .int p2), (3, .int p3)]) hx hb dX12_row_55 hl (by decide) rfl (fun ls hl => ?_)
          exact w_X12_row_b57 C hQ 256 _ _ _ _ _ _ hf hP hD hS (lv_sub hl [1, 2, 0] rfl)
        · replace hf := ineg c8 hf
          refine lv_bipush (v := -14) hx hb dX12_row_31 (by decide) ?_
          exact retI hQ hf dX12_row_33 hP hD hS
      · replace hf := ineg c7 hf
        refine lv_iconst (v := -1) hx hb dX12_row_25 (by decide) ?_
        exact retI hQ hf dX12_row_26 hP hD hS
theorem dX12_refusal_0 : decode cX12_refusal 0 = .ok (.iload_n 1, 1) := by decide +kernel
theorem dX12_refusal_1 : decode cX12_refusal 1 = .ok (.invokestatic 98, 3) := by decide +kernel
theorem dX12_refusal_4 : decode cX12_refusal 4 = .ok (.ifCond .ne 5, 3) := by decide +kernel
theorem dX12_refusal_7 : decode cX12_refusal 7 = .ok (.iconst (-1), 1) := by decide +kernel
theorem dX12_refusal_8 : decode cX12_refusal 8 = .ok (.ireturn, 1) := by decide +kernel
theorem dX12_refusal_9 : decode cX12_refusal 9 = .ok (.aload_n 0, 1) := by decide +kernel
theorem dX12_refusal_10 : decode cX12_refusal 10 = .ok (.getfield 64, 3) := by decide +kernel
theorem dX12_refusal_13 : decode cX12_refusal 13 = .ok (.iload_n 1, 1) := by decide +kernel
theorem dX12_refusal_14 : decode cX12_refusal 14 = .ok (.iaload, 1) := by decide +kernel
theorem dX12_refusal_15 : decode cX12_refusal 15 = .ok (.ifCond .ge 6, 3) := by decide +kernel
theorem dX12_refusal_18 : decode cX12_refusal 18 = .ok (.bipush (-11), 2) := by decide +kernel
theorem dX12_refusal_20 : decode cX12_refusal 20 = .ok (.ireturn, 1) := by decide +kernel
theorem dX12_refusal_21 : decode cX12_refusal 21 = .ok (.aload_n 0, 1) := by decide +kernel
theorem dX12_refusal_22 : decode cX12_refusal 22 = .ok (.getfield 64, 3) := by decide +kernel
theorem dX12_refusal_25 : decode cX12_refusal 25 = .ok (.iload_n 1, 1) := by decide +kernel
theorem dX12_refusal_26 : decode cX12_refusal 26 = .ok (.iaload, 1) := by decide +kernel
theorem dX12_refusal_27 : decode cX12_refusal 27 = .ok (.bipush 50, 2) := by decide +kernel
theorem dX12_refusal_29 : decode cX12_refusal 29 = .ok (.if_icmp .ge 6, 3) := by decide +kernel
theorem dX12_refusal_32 : decode cX12_refusal 32 = .ok (.bipush (-12), 2) := by decide +kernel
theorem dX12_refusal_34 : decode cX12_refusal 34 = .ok (.ireturn, 1) := by decide +kernel
theorem dX12_refusal_35 : decode cX12_refusal 35 = .ok (.iload_n 2, 1) := by decide +kernel
theorem dX12_refusal_36 : decode cX12_refusal 36 = .ok (.ifCond .lt 17, 3) := by decide +kernel
theorem dX12_refusal_39 : decode cX12_refusal 39 = .ok (.iload_n 2, 1) := by decide +kernel
theorem dX12_refusal_40 : decode cX12_refusal 40 = .ok (.aload_n 0, 1) := by decide +kernel
theorem dX12_refusal_41 : decode cX12_refusal 41 = .ok (.getfield 67, 3) := by decide +kernel
theorem dX12_refusal_44 : decode cX12_refusal 44 = .ok (.iload_n 1, 1) := by decide +kernel
theorem dX12_refusal_45 : decode cX12_refusal 45 = .ok (.iaload, 1) := by decide +kernel
theorem dX12_refusal_46 : decode cX12_refusal 46 = .ok (.if_icmp .ge 7, 3) := by decide +kernel
theorem dX12_refusal_49 : decode cX12_refusal 49 = .ok (.iconst 0, 1) := by decide +kernel
theorem dX12_refusal_50 : decode cX12_refusal 50 = .ok (.goto 5, 3) := by decide +kernel
theorem dX12_refusal_53 : decode cX12_refusal 53 = .ok (.bipush (-13), 2) := by decide +kernel
theorem dX12_refusal_55 : decode cX12_refusal 55 = .ok (.ireturn, 1) := by decide +kernel
def f_X12_refusal (σ : St) (p1 : Int32) (p2 : Int32) : Option (Int32 × St) := bnd1 (f_X12_isShelf p1) (fun r2 => if r2 = 0 then (some ((-1 : Int32), σ)) else (chk (p1 < 0 ∨ 6 ≤ p1.toNatClampNeg) (if 0 ≤ σ.2.2.1 639 0 p1.toNatClampNeg then (chk (p1 < 0 ∨ 6 ≤ p1.toNatClampNeg) (if (50 : Int32) ≤ σ.2.2.1 639 0 p1.toNatClampNeg then (if p2 < 0 then (some ((-13 : Int32), σ)) else (chk (p1 < 0 ∨ 6 ≤ p1.toNatClampNeg) (if σ.2.2.1 640 0 p1.toNatClampNeg ≤ p2 then (some ((-13 : Int32), σ)) else (some ((0 : Int32), σ))))) else (some ((-12 : Int32), σ)))) else (some ((-11 : Int32), σ)))))
set_option maxHeartbeats 4000000 in
set_option maxRecDepth 100000 in
theorem c_X12_refusal {l : Launch} {g : va_G} {ts : ClassId × ClassId × ClassId} {a : Nat → Nat} {σ : St} {p1 : Int32} {p2 : Int32} {r : Int32} {σ' : St} (hf : f_X12_refusal σ p1 p2 = some (r, σ')) : ConI l g ts (WM ts a) yX12_refusal cX12_refusal 3 (some .int) (rk 2 45) σ [.ref (a 0), .int p1, .int p2] r σ' := by
  refine ConI_mk .int rfl rfl rfl rfl (by decide) (Nat.le_of_ble_eq_true rfl) ?_
  intro p e s m below meth c A Q ls C hQ hP hD hS hl
  have C : FX p s m _ meth c RX12 cX12_refusal 3 g ts A := C
  have hx := C.1
  have hb := C.2.1
  have hown := C.2.2.2.1
  have hts := C.2.2.2.2.1
  have hl : lv_has ls 3 [(0, .ref (a 0)), (1, .int p1), (2, .int p2)] := hl
  rw [f_X12_refusal] at hf
  refine lv_iload_n hx hb dX12_refusal_0 rfl (lv_at hl 1 rfl) ?_
  obtain ⟨r2, h1, hf⟩ := bnd1_some hf
  refine tI [] C hP hD hS (c_X12_isShelf h1) ms_X12_isShelf q_1214 dX12_refusal_1 ⟨Nat.le_of_ble_eq_true rfl, Nat.le_of_ble_eq_true rfl⟩ ⟨Nat.zero_le _, Nat.zero_le _⟩ rfl rfl (Nat.le_of_ble_eq_true rfl) hl.1 (fun H locs hP hD hS => ?_)
  refine lv_if_ne (tgt := 9) hx hb dX12_refusal_4 (by decide) (fun c3 => ?_) (fun c3 => ?_)
  · replace hf := ineg c3 hf
    refine lv_aload_n hx hb dX12_refusal_9 rfl (lv_at hl 0 rfl) ?_
    refine G_X12_shelf C hP q_1111 dX12_refusal_10 ?_
    refine lv_iload_n hx hb dX12_refusal_13 rfl (lv_at hl 1 rfl) ?_
    obtain ⟨h4, hf⟩ := chk_some hf
    refine AL_X12_shelf C hP h4 dX12_refusal_14 ?_
    refine lv_if_ge (tgt := 21) hx hb dX12_refusal_15 (by decide) (fun c5 => ?_) (fun c5 => ?_)
    · replace hf := ipos c5 hf
      refine lv_aload_n hx hb dX12_refusal_21 rfl (lv_at hl 0 rfl) ?_
      refine G_X12_shelf C hP q_1111 dX12_refusal_22 ?_
      refine lv_iload_n hx hb dX12_refusal_25 rfl (lv_at hl 1 rfl) ?_
      obtain ⟨h6, hf⟩ := chk_some hf
      refine AL_X12_shelf C hP h6 dX12_refusal_26 ?_
      refine lv_bipush (v := 50) hx hb dX12_refusal_27 (by decide) ?_
      refine lv_icmp_ge (tgt := 35) hx hb dX12_refusal_29 (by decide) (fun c7 => ?_) (fun c7 => ?_)
      · replace hf := ipos c7 hf
        refine lv_iload_n hx hb dX12_refusal_35 rfl (lv_at hl 2 rfl) ?_
        refine lv_if_lt (tgt := 53) hx hb dX12_refusal_36 (by decide) (fun c8 => ?_) (fun c8 => ?_)
        · replace hf := ipos c8 hf
          refine lv_bipush (v := -13) hx hb dX12_refusal_53 (by decide) ?_
          exact retI hQ hf dX12_refusal_55 hP hD hS
        · replace hf := ineg c8 hf
          refine lv_iload_n hx hb dX12_refusal_39 rfl (lv_at hl 2 rfl) ?_
          refine lv_aload_n hx hb dX12_refusal_40 rfl (lv_at hl 0 rfl) ?_
          refine G_X12_many C hP q_1112 dX12_refusal_41 ?_
          refine lv_iload_n hx hb dX12_refusal_44 rfl (lv_at hl 1 rfl) ?_
          obtain ⟨h9, hf⟩ := chk_some hf
          refine AL_X12_many C hP h9 dX12_refusal_45 ?_
          refine lv_icmp_ge (tgt := 53) hx hb dX12_refusal_46 (by decide) (fun c10 => ?_) (fun c10 => ?_)
          · replace hf := ipos c10 hf
            refine lv_bipush (v := -13) hx hb dX12_refusal_53 (by decide) ?_
            exact retI hQ hf dX12_refusal_55 hP hD hS
          · replace hf := ineg c10 hf
            refine lv_iconst (v := 0) hx hb dX12_refusal_49 (by decide) ?_
            refine lv_goto (tgt := 55) hx hb dX12_refusal_50 (by decide) ?_
            exact retI hQ hf dX12_refusal_55 hP hD hS
      · replace hf := ineg c7 hf
        refine lv_bipush (v := -12) hx hb dX12_refusal_32 (by decide) ?_
        exact retI hQ hf dX12_refusal_34 hP hD hS
    · replace hf := ineg c5 hf
      refine lv_bipush (v := -11) hx hb dX12_refusal_18 (by decide) ?_
      exact retI hQ hf dX12_refusal_20 hP hD hS
  · replace hf := ipos c3 hf
    refine lv_iconst (v := -1) hx hb dX12_refusal_7 (by decide) ?_
    exact retI hQ hf dX12_refusal_8 hP hD hS
theorem dX12_put_0 : decode cX12_put 0 = .ok (.aload_n 0, 1) := by decide +kernel
theorem dX12_put_1 : decode cX12_put 1 = .ok (.iload_n 1, 1) := by decide +kernel
theorem dX12_put_2 : decode cX12_put 2 = .ok (.iload_n 2, 1) := by decide +kernel
theorem dX12_put_3 : decode cX12_put 3 = .ok (.invokevirtual 340, 3) := by decide +kernel
theorem dX12_put_6 : decode cX12_put 6 = .ok (.istore 5, 2) := by decide +kernel
theorem dX12_put_8 : decode cX12_put 8 = .ok (.iload 5, 2) := by decide +kernel
theorem dX12_put_10 : decode cX12_put 10 = .ok (.ifCond .ne 27, 3) := by decide +kernel
theorem dX12_put_13 : decode cX12_put 13 = .ok (.aload_n 0, 1) := by decide +kernel
theorem dX12_put_14 : decode cX12_put 14 = .ok (.getfield 70, 3) := by decide +kernel
theorem dX12_put_17 : decode cX12_put 17 = .ok (.bipush 60, 2) := by decide +kernel
theorem dX12_put_19 : decode cX12_put 19 = .ok (.iload_n 1, 1) := by decide +kernel
theorem dX12_put_20 : decode cX12_put 20 = .ok (.imul, 1) := by decide +kernel
theorem dX12_put_21 : decode cX12_put 21 = .ok (.iload_n 2, 1) := by decide +kernel
theorem dX12_put_22 : decode cX12_put 22 = .ok (.iadd, 1) := by decide +kernel
theorem dX12_put_23 : decode cX12_put 23 = .ok (.aload_n 0, 1) := by decide +kernel
theorem dX12_put_24 : decode cX12_put 24 = .ok (.getfield 64, 3) := by decide +kernel
theorem dX12_put_27 : decode cX12_put 27 = .ok (.iload_n 1, 1) := by decide +kernel
theorem dX12_put_28 : decode cX12_put 28 = .ok (.iaload, 1) := by decide +kernel
theorem dX12_put_29 : decode cX12_put 29 = .ok (.bipush 50, 2) := by decide +kernel
theorem dX12_put_31 : decode cX12_put 31 = .ok (.isub, 1) := by decide +kernel
theorem dX12_put_32 : decode cX12_put 32 = .ok (.lload_n 3, 1) := by decide +kernel
theorem dX12_put_33 : decode cX12_put 33 = .ok (.invokestatic 343, 3) := by decide +kernel
theorem dX12_put_36 : decode cX12_put 36 = .ok (.lastore, 1) := by decide +kernel
theorem dX12_put_37 : decode cX12_put 37 = .ok (.iload 5, 2) := by decide +kernel
theorem dX12_put_39 : decode cX12_put 39 = .ok (.ifCond .ne 7, 3) := by decide +kernel
theorem dX12_put_42 : decode cX12_put 42 = .ok (.iconst 1, 1) := by decide +kernel
theorem dX12_put_43 : decode cX12_put 43 = .ok (.goto 5, 3) := by decide +kernel
theorem dX12_put_46 : decode cX12_put 46 = .ok (.iload 5, 2) := by decide +kernel
theorem dX12_put_48 : decode cX12_put 48 = .ok (.ireturn, 1) := by decide +kernel
def f_X12_put_b37 (σ : St) (x5 : Int32) : Option (Int32 × St) := if x5 = 0 then (some ((1 : Int32), σ)) else (some (x5, σ))
def f_X12_put (σ : St) (p1 : Int32) (p2 : Int32) (p3 : Int64) : Option (Int32 × St) := bnd2 (f_X12_refusal σ p1 p2) (fun r2 σ3 => if r2 = 0 then (chk (p1 < 0 ∨ 6 ≤ p1.toNatClampNeg) (bnd1 (f_X12_asSort ((σ3.2.2.1 639 0 p1.toNatClampNeg) - (50 : Int32)) p3) (fun r7 => chk (((60 : Int32) * p1) + p2 < 0 ∨ 360 ≤ (((60 : Int32) * p1) + p2).toNatClampNeg) (bnd (sL σ3 641 0 (vp_updL (σ3.2.2.2.1 641 0) (((60 : Int32) * p1) + p2).toNatClampNeg r7)) (fun σ9 => f_X12_put_b37 σ9 r2))))) else (f_X12_put_b37 σ3 r2))
set_option maxHeartbeats 4000000 in
set_option maxRecDepth 100000 in
theorem w_X12_put_b37 {p : Program} {l : Launch} {e : Env} {s : State} {m : MethodId} {args : Array Value} {below : List Frame} {meth : Method} {c : Code} {g : va_G} {ts : ClassId × ClassId × ClassId} {A : Nat → Prop} {Q : State → Prop} {a : Nat → Nat} {r : Int32} {σ' : St} (C : FX p s m args meth c RX12 cX12_put 6 g ts A) (hQ : RetI p l e (rk 3 67) s m args below meth c cX12_put g (WM ts a) A r σ' Q) : ∀ (σ : St) (x5 : Int32) (H : Heap) (locs : List Loc) (ls : Array Slot), f_X12_put_b37 σ x5 = some (r, σ') → va_P g classes (WM ts a σ) H → va_D A (WM ts a σ) → va_S A s.heap H locs → lv_has ls 6 [(5, .int x5)] → W p l e (rk 3 67) s m args below meth c H locs 0 0 Q (F0 m 37 ls []) := by
  have hx := C.1
  have hb := C.2.1
  have hown := C.2.2.2.1
  have hts := C.2.2.2.2.1
  intro σ x5 H locs ls hf hP hD hS hl
  rw [f_X12_put_b37] at hf
  refine lv_iload hx hb dX12_put_37 (lv_at hl 0 rfl) ?_
  refine lv_if_ne (tgt := 46) hx hb dX12_put_39 (by decide) (fun c10 => ?_) (fun c10 => ?_)
  · replace hf := ineg c10 hf
    refine lv_iload hx hb dX12_put_46 (lv_at hl 0 rfl) ?_
    exact retI hQ hf dX12_put_48 hP hD hS
  · replace hf := ipos c10 hf
    refine lv_iconst (v := 1) hx hb dX12_put_42 (by decide) ?_
    refine lv_goto (tgt := 48) hx hb dX12_put_43 (by decide) ?_
    exact retI hQ hf dX12_put_48 hP hD hS
set_option maxHeartbeats 4000000 in
set_option maxRecDepth 100000 in
theorem c_X12_put {l : Launch} {g : va_G} {ts : ClassId × ClassId × ClassId} {a : Nat → Nat} {σ : St} {p1 : Int32} {p2 : Int32} {p3 : Int64} {r : Int32} {σ' : St} (hf : f_X12_put σ p1 p2 p3 = some (r, σ')) : ConI l g ts (WM ts a) yX12_put cX12_put 6 (some .int) (rk 3 67) σ [.ref (a 0), .int p1, .int p2, .long p3] r σ' := by
  refine ConI_mk .int rfl rfl rfl rfl (by decide) (Nat.le_of_ble_eq_true rfl) ?_
  intro p e s m below meth c A Q ls C hQ hP hD hS hl
  have C : FX p s m _ meth c RX12 cX12_put 6 g ts A := C
  have hx := C.1
  have hb := C.2.1
  have hown := C.2.2.2.1
  have hts := C.2.2.2.2.1
  have hl : lv_has ls 6 [(0, .ref (a 0)), (1, .int p1), (2, .int p2), (3, .long p3)] := hl
  rw [f_X12_put] at hf
  refine lv_aload_n hx hb dX12_put_0 rfl (lv_at hl 0 rfl) ?_
  refine lv_iload_n hx hb dX12_put_1 rfl (lv_at hl 1 rfl) ?_
  refine lv_iload_n hx hb dX12_put_2 rfl (lv_at hl 2 rfl) ?_
  obtain ⟨r2, σ3, h1, hf⟩ := bnd2_some hf
  refine vI [] C hP hD hS (c_X12_refusal h1) mv_X12_refusal q_1566 rv_X12 dX12_put_3 ⟨Nat.le_of_ble_eq_true rfl, Nat.le_of_ble_eq_true rfl⟩ ⟨Nat.zero_le _, Nat.zero_le _⟩ rfl rfl (Nat.le_of_ble_eq_true rfl) hl.1 (fun H locs hP hD hS => ?_)
  refine lv_istore (lv' := [(5, .int r2), (0, .ref (a 0)), (1, .int p1), (2, .int p2), (3, .long p3)]) hx hb dX12_put_6 hl (by decide) rfl (fun ls hl => ?_)
  refine lv_iload hx hb dX12_put_8 (lv_at hl 0 rfl) ?_
  refine lv_if_ne (tgt := 37) hx hb dX12_put_10 (by decide) (fun c4 => ?_) (fun c4 => ?_)
  · replace hf := ineg c4 hf
    exact w_X12_put_b37 C hQ _ _ _ _ _ hf hP hD hS (lv_sub hl [0] rfl)
  · replace hf := ipos c4 hf
    refine lv_aload_n hx hb dX12_put_13 rfl (lv_at hl 1 rfl) ?_
    refine G_X12_items C hP q_1113 dX12_put_14 ?_
    refine lv_bipush (v := 60) hx hb dX12_put_17 (by decide) ?_
    refine lv_iload_n hx hb dX12_put_19 rfl (lv_at hl 2 rfl) ?_
    refine lv_imul hx hb dX12_put_20 ?_
    refine lv_iload_n hx hb dX12_put_21 rfl (lv_at hl 3 rfl) ?_
    refine lv_iadd hx hb dX12_put_22 ?_
    refine lv_aload_n hx hb dX12_put_23 rfl (lv_at hl 1 rfl) ?_
    refine G_X12_shelf C hP q_1111 dX12_put_24 ?_
    refine lv_iload_n hx hb dX12_put_27 rfl (lv_at hl 2 rfl) ?_
    obtain ⟨h5, hf⟩ := chk_some hf
    refine AL_X12_shelf C hP h5 dX12_put_28 ?_
    refine lv_bipush (v := 50) hx hb dX12_put_29 (by decide) ?_
    refine lv_isub hx hb dX12_put_31 ?_
    refine lv_lload_n hx hb dX12_put_32 rfl (lv_at hl 4 rfl) ?_
    obtain ⟨r7, h6, hf⟩ := bnd1_some hf
    refine tL [.int (((60 : Int32) * p1) + p2), .ref (a 20)] C hP hD hS (c_X12_asSort h6) ms_X12_asSort q_1570 dX12_put_33 ⟨Nat.le_of_ble_eq_true rfl, Nat.le_of_ble_eq_true rfl⟩ ⟨Nat.zero_le _, Nat.zero_le _⟩ rfl rfl (Nat.le_of_ble_eq_true rfl) hl.1 (fun H locs hP hD hS => ?_)
    obtain ⟨h8, hf⟩ := chk_some hf
    refine AS_X12_items C hP hD hS h8 dX12_put_36 (fun H locs hP hD hS => ?_)
    refine nameS hP hD hf (fun σ9 hP hD hf => ?_)
    exact w_X12_put_b37 C hQ _ _ _ _ _ hf hP hD hS (lv_sub hl [0] rfl)
theorem dX12_element_0 : decode cX12_element 0 = .ok (.aload_n 0, 1) := by decide +kernel
theorem dX12_element_1 : decode cX12_element 1 = .ok (.iload_n 1, 1) := by decide +kernel
theorem dX12_element_2 : decode cX12_element 2 = .ok (.iload_n 2, 1) := by decide +kernel
theorem dX12_element_3 : decode cX12_element 3 = .ok (.invokevirtual 340, 3) := by decide +kernel
theorem dX12_element_6 : decode cX12_element 6 = .ok (.ifCond .eq 9, 3) := by decide +kernel
theorem dX12_element_9 : decode cX12_element 9 = .ok (.ldc2_w 200, 3) := by decide +kernel
theorem dX12_element_12 : decode cX12_element 12 = .ok (.goto 14, 3) := by decide +kernel
theorem dX12_element_15 : decode cX12_element 15 = .ok (.aload_n 0, 1) := by decide +kernel
theorem dX12_element_16 : decode cX12_element 16 = .ok (.getfield 70, 3) := by decide +kernel
theorem dX12_element_19 : decode cX12_element 19 = .ok (.bipush 60, 2) := by decide +kernel
theorem dX12_element_21 : decode cX12_element 21 = .ok (.iload_n 1, 1) := by decide +kernel
theorem dX12_element_22 : decode cX12_element 22 = .ok (.imul, 1) := by decide +kernel
theorem dX12_element_23 : decode cX12_element 23 = .ok (.iload_n 2, 1) := by decide +kernel
theorem dX12_element_24 : decode cX12_element 24 = .ok (.iadd, 1) := by decide +kernel
theorem dX12_element_25 : decode cX12_element 25 = .ok (.laload, 1) := by decide +kernel
theorem dX12_element_26 : decode cX12_element 26 = .ok (.lreturn, 1) := by decide +kernel
def f_X12_element (σ : St) (p1 : Int32) (p2 : Int32) : Option (Int64 × St) := bnd2 (f_X12_refusal σ p1 p2) (fun r2 σ3 => if r2 = 0 then (chk (((60 : Int32) * p1) + p2 < 0 ∨ 360 ≤ (((60 : Int32) * p1) + p2).toNatClampNeg) (some (σ3.2.2.2.1 641 0 (((60 : Int32) * p1) + p2).toNatClampNeg, σ3))) else (some ((-9223372036854775808 : Int64), σ3)))
set_option maxHeartbeats 4000000 in
set_option maxRecDepth 100000 in
theorem c_X12_element {l : Launch} {g : va_G} {ts : ClassId × ClassId × ClassId} {a : Nat → Nat} {σ : St} {p1 : Int32} {p2 : Int32} {r : Int64} {σ' : St} (hf : f_X12_element σ p1 p2 = some (r, σ')) : ConL l g ts (WM ts a) yX12_element cX12_element 3 (some .long) (rk 3 67) σ [.ref (a 0), .int p1, .int p2] r σ' := by
  refine ConL_mk rfl rfl (by decide) (Nat.le_of_ble_eq_true rfl) ?_
  intro p e s m below meth c A Q ls C hQ hP hD hS hl
  have C : FX p s m _ meth c RX12 cX12_element 3 g ts A := C
  have hx := C.1
  have hb := C.2.1
  have hown := C.2.2.2.1
  have hts := C.2.2.2.2.1
  have hl : lv_has ls 3 [(0, .ref (a 0)), (1, .int p1), (2, .int p2)] := hl
  rw [f_X12_element] at hf
  refine lv_aload_n hx hb dX12_element_0 rfl (lv_at hl 0 rfl) ?_
  refine lv_iload_n hx hb dX12_element_1 rfl (lv_at hl 1 rfl) ?_
  refine lv_iload_n hx hb dX12_element_2 rfl (lv_at hl 2 rfl) ?_
  obtain ⟨r2, σ3, h1, hf⟩ := bnd2_some hf
  refine vI [] C hP hD hS (c_X12_refusal h1) mv_X12_refusal q_1566 rv_X12 dX12_element_3 ⟨Nat.le_of_ble_eq_true rfl, Nat.le_of_ble_eq_true rfl⟩ ⟨Nat.zero_le _, Nat.zero_le _⟩ rfl rfl (Nat.le_of_ble_eq_true rfl) hl.1 (fun H locs hP hD hS => ?_)
  refine lv_if_eq (tgt := 15) hx hb dX12_element_6 (by decide) (fun c4 => ?_) (fun c4 => ?_)
  · replace hf := ipos c4 hf
    refine lv_aload_n hx hb dX12_element_15 rfl (lv_at hl 0 rfl) ?_
    refine G_X12_items C hP q_1113 dX12_element_16 ?_
    refine lv_bipush (v := 60) hx hb dX12_element_19 (by decide) ?_
    refine lv_iload_n hx hb dX12_element_21 rfl (lv_at hl 1 rfl) ?_
    refine lv_imul hx hb dX12_element_22 ?_
    refine lv_iload_n hx hb dX12_element_23 rfl (lv_at hl 2 rfl) ?_
    refine lv_iadd hx hb dX12_element_24 ?_
    obtain ⟨h5, hf⟩ := chk_some hf
    refine AL_X12_items C hP h5 dX12_element_25 ?_
    exact retL hQ hf dX12_element_26 hP hD hS
  · replace hf := ineg c4 hf
    refine lv_ldc2 hx hb hown (hts _ q_1326) dX12_element_9 ?_
    refine lv_goto (tgt := 26) hx hb dX12_element_12 (by decide) ?_
    exact retL hQ hf dX12_element_26 hP hD hS
theorem dX12_shift_0 : decode cX12_shift 0 = .ok (.iload_n 1, 1) := by decide +kernel
theorem dX12_shift_1 : decode cX12_shift 1 = .ok (.invokestatic 98, 3) := by decide +kernel
theorem dX12_shift_4 : decode cX12_shift 4 = .ok (.ifCond .eq 10, 3) := by decide +kernel
theorem dX12_shift_7 : decode cX12_shift 7 = .ok (.iload_n 3, 1) := by decide +kernel
theorem dX12_shift_8 : decode cX12_shift 8 = .ok (.invokestatic 98, 3) := by decide +kernel
theorem dX12_shift_11 : decode cX12_shift 11 = .ok (.ifCond .ne 5, 3) := by decide +kernel
theorem dX12_shift_14 : decode cX12_shift 14 = .ok (.iconst (-1), 1) := by decide +kernel
theorem dX12_shift_15 : decode cX12_shift 15 = .ok (.ireturn, 1) := by decide +kernel
theorem dX12_shift_16 : decode cX12_shift 16 = .ok (.aload_n 0, 1) := by decide +kernel
theorem dX12_shift_17 : decode cX12_shift 17 = .ok (.getfield 64, 3) := by decide +kernel
theorem dX12_shift_20 : decode cX12_shift 20 = .ok (.iload_n 1, 1) := by decide +kernel
theorem dX12_shift_21 : decode cX12_shift 21 = .ok (.iaload, 1) := by decide +kernel
theorem dX12_shift_22 : decode cX12_shift 22 = .ok (.ifCond .lt 12, 3) := by decide +kernel
theorem dX12_shift_25 : decode cX12_shift 25 = .ok (.aload_n 0, 1) := by decide +kernel
theorem dX12_shift_26 : decode cX12_shift 26 = .ok (.getfield 64, 3) := by decide +kernel
theorem dX12_shift_29 : decode cX12_shift 29 = .ok (.iload_n 3, 1) := by decide +kernel
theorem dX12_shift_30 : decode cX12_shift 30 = .ok (.iaload, 1) := by decide +kernel
theorem dX12_shift_31 : decode cX12_shift 31 = .ok (.ifCond .ge 6, 3) := by decide +kernel
theorem dX12_shift_34 : decode cX12_shift 34 = .ok (.bipush (-11), 2) := by decide +kernel
theorem dX12_shift_36 : decode cX12_shift 36 = .ok (.ireturn, 1) := by decide +kernel
theorem dX12_shift_37 : decode cX12_shift 37 = .ok (.aload_n 0, 1) := by decide +kernel
theorem dX12_shift_38 : decode cX12_shift 38 = .ok (.getfield 64, 3) := by decide +kernel
theorem dX12_shift_41 : decode cX12_shift 41 = .ok (.iload_n 1, 1) := by decide +kernel
theorem dX12_shift_42 : decode cX12_shift 42 = .ok (.iaload, 1) := by decide +kernel
theorem dX12_shift_43 : decode cX12_shift 43 = .ok (.bipush 50, 2) := by decide +kernel
theorem dX12_shift_45 : decode cX12_shift 45 = .ok (.if_icmp .lt 18, 3) := by decide +kernel
theorem dX12_shift_48 : decode cX12_shift 48 = .ok (.aload_n 0, 1) := by decide +kernel
theorem dX12_shift_49 : decode cX12_shift 49 = .ok (.getfield 64, 3) := by decide +kernel
theorem dX12_shift_52 : decode cX12_shift 52 = .ok (.iload_n 1, 1) := by decide +kernel
theorem dX12_shift_53 : decode cX12_shift 53 = .ok (.iaload, 1) := by decide +kernel
theorem dX12_shift_54 : decode cX12_shift 54 = .ok (.aload_n 0, 1) := by decide +kernel
theorem dX12_shift_55 : decode cX12_shift 55 = .ok (.getfield 64, 3) := by decide +kernel
theorem dX12_shift_58 : decode cX12_shift 58 = .ok (.iload_n 3, 1) := by decide +kernel
theorem dX12_shift_59 : decode cX12_shift 59 = .ok (.iaload, 1) := by decide +kernel
theorem dX12_shift_60 : decode cX12_shift 60 = .ok (.if_icmp .eq 6, 3) := by decide +kernel
theorem dX12_shift_63 : decode cX12_shift 63 = .ok (.bipush (-12), 2) := by decide +kernel
theorem dX12_shift_65 : decode cX12_shift 65 = .ok (.ireturn, 1) := by decide +kernel
theorem dX12_shift_66 : decode cX12_shift 66 = .ok (.iload 5, 2) := by decide +kernel
theorem dX12_shift_68 : decode cX12_shift 68 = .ok (.ifCond .lt 39, 3) := by decide +kernel
theorem dX12_shift_71 : decode cX12_shift 71 = .ok (.iload_n 2, 1) := by decide +kernel
theorem dX12_shift_72 : decode cX12_shift 72 = .ok (.ifCond .lt 35, 3) := by decide +kernel
theorem dX12_shift_75 : decode cX12_shift 75 = .ok (.iload 4, 2) := by decide +kernel
theorem dX12_shift_77 : decode cX12_shift 77 = .ok (.ifCond .lt 30, 3) := by decide +kernel
theorem dX12_shift_80 : decode cX12_shift 80 = .ok (.iload_n 2, 1) := by decide +kernel
theorem dX12_shift_81 : decode cX12_shift 81 = .ok (.aload_n 0, 1) := by decide +kernel
theorem dX12_shift_82 : decode cX12_shift 82 = .ok (.getfield 67, 3) := by decide +kernel
theorem dX12_shift_85 : decode cX12_shift 85 = .ok (.iload_n 1, 1) := by decide +kernel
theorem dX12_shift_86 : decode cX12_shift 86 = .ok (.iaload, 1) := by decide +kernel
theorem dX12_shift_87 : decode cX12_shift 87 = .ok (.iload 5, 2) := by decide +kernel
theorem dX12_shift_89 : decode cX12_shift 89 = .ok (.isub, 1) := by decide +kernel
theorem dX12_shift_90 : decode cX12_shift 90 = .ok (.if_icmp .gt 17, 3) := by decide +kernel
theorem dX12_shift_93 : decode cX12_shift 93 = .ok (.iload 4, 2) := by decide +kernel
theorem dX12_shift_95 : decode cX12_shift 95 = .ok (.aload_n 0, 1) := by decide +kernel
theorem dX12_shift_96 : decode cX12_shift 96 = .ok (.getfield 67, 3) := by decide +kernel
theorem dX12_shift_99 : decode cX12_shift 99 = .ok (.iload_n 3, 1) := by decide +kernel
theorem dX12_shift_100 : decode cX12_shift 100 = .ok (.iaload, 1) := by decide +kernel
theorem dX12_shift_101 : decode cX12_shift 101 = .ok (.iload 5, 2) := by decide +kernel
theorem dX12_shift_103 : decode cX12_shift 103 = .ok (.isub, 1) := by decide +kernel
theorem dX12_shift_104 : decode cX12_shift 104 = .ok (.if_icmp .le 6, 3) := by decide +kernel
theorem dX12_shift_107 : decode cX12_shift 107 = .ok (.bipush (-13), 2) := by decide +kernel
theorem dX12_shift_109 : decode cX12_shift 109 = .ok (.ireturn, 1) := by decide +kernel
theorem dX12_shift_110 : decode cX12_shift 110 = .ok (.iconst 0, 1) := by decide +kernel
theorem dX12_shift_111 : decode cX12_shift 111 = .ok (.istore 6, 2) := by decide +kernel
theorem dX12_shift_113 : decode cX12_shift 113 = .ok (.iload 6, 2) := by decide +kernel
theorem dX12_shift_115 : decode cX12_shift 115 = .ok (.iload 5, 2) := by decide +kernel
theorem dX12_shift_117 : decode cX12_shift 117 = .ok (.if_icmp .ge 30, 3) := by decide +kernel
theorem dX12_shift_120 : decode cX12_shift 120 = .ok (.aload_n 0, 1) := by decide +kernel
theorem dX12_shift_121 : decode cX12_shift 121 = .ok (.getfield 73, 3) := by decide +kernel
theorem dX12_shift_124 : decode cX12_shift 124 = .ok (.iload 6, 2) := by decide +kernel
theorem dX12_shift_126 : decode cX12_shift 126 = .ok (.aload_n 0, 1) := by decide +kernel
theorem dX12_shift_127 : decode cX12_shift 127 = .ok (.getfield 70, 3) := by decide +kernel
theorem dX12_shift_130 : decode cX12_shift 130 = .ok (.bipush 60, 2) := by decide +kernel
theorem dX12_shift_132 : decode cX12_shift 132 = .ok (.iload_n 1, 1) := by decide +kernel
theorem dX12_shift_133 : decode cX12_shift 133 = .ok (.imul, 1) := by decide +kernel
theorem dX12_shift_134 : decode cX12_shift 134 = .ok (.iload_n 2, 1) := by decide +kernel
theorem dX12_shift_135 : decode cX12_shift 135 = .ok (.iadd, 1) := by decide +kernel
theorem dX12_shift_136 : decode cX12_shift 136 = .ok (.iload 6, 2) := by decide +kernel
theorem dX12_shift_138 : decode cX12_shift 138 = .ok (.iadd, 1) := by decide +kernel
theorem dX12_shift_139 : decode cX12_shift 139 = .ok (.laload, 1) := by decide +kernel
theorem dX12_shift_140 : decode cX12_shift 140 = .ok (.lastore, 1) := by decide +kernel
theorem dX12_shift_141 : decode cX12_shift 141 = .ok (.iinc 6 1, 3) := by decide +kernel
theorem dX12_shift_144 : decode cX12_shift 144 = .ok (.goto (-31), 3) := by decide +kernel
theorem dX12_shift_147 : decode cX12_shift 147 = .ok (.iconst 0, 1) := by decide +kernel
theorem dX12_shift_148 : decode cX12_shift 148 = .ok (.istore 6, 2) := by decide +kernel
theorem dX12_shift_150 : decode cX12_shift 150 = .ok (.iload 6, 2) := by decide +kernel
theorem dX12_shift_152 : decode cX12_shift 152 = .ok (.iload 5, 2) := by decide +kernel
theorem dX12_shift_154 : decode cX12_shift 154 = .ok (.if_icmp .ge 31, 3) := by decide +kernel
theorem dX12_shift_157 : decode cX12_shift 157 = .ok (.aload_n 0, 1) := by decide +kernel
theorem dX12_shift_158 : decode cX12_shift 158 = .ok (.getfield 70, 3) := by decide +kernel
theorem dX12_shift_161 : decode cX12_shift 161 = .ok (.bipush 60, 2) := by decide +kernel
theorem dX12_shift_163 : decode cX12_shift 163 = .ok (.iload_n 3, 1) := by decide +kernel
theorem dX12_shift_164 : decode cX12_shift 164 = .ok (.imul, 1) := by decide +kernel
theorem dX12_shift_165 : decode cX12_shift 165 = .ok (.iload 4, 2) := by decide +kernel
theorem dX12_shift_167 : decode cX12_shift 167 = .ok (.iadd, 1) := by decide +kernel
theorem dX12_shift_168 : decode cX12_shift 168 = .ok (.iload 6, 2) := by decide +kernel
theorem dX12_shift_170 : decode cX12_shift 170 = .ok (.iadd, 1) := by decide +kernel
theorem dX12_shift_171 : decode cX12_shift 171 = .ok (.aload_n 0, 1) := by decide +kernel
theorem dX12_shift_172 : decode cX12_shift 172 = .ok (.getfield 73, 3) := by decide +kernel
theorem dX12_shift_175 : decode cX12_shift 175 = .ok (.iload 6, 2) := by decide +kernel
theorem dX12_shift_177 : decode cX12_shift 177 = .ok (.laload, 1) := by decide +kernel
theorem dX12_shift_178 : decode cX12_shift 178 = .ok (.lastore, 1) := by decide +kernel
theorem dX12_shift_179 : decode cX12_shift 179 = .ok (.iinc 6 1, 3) := by decide +kernel
theorem dX12_shift_182 : decode cX12_shift 182 = .ok (.goto (-32), 3) := by decide +kernel
theorem dX12_shift_185 : decode cX12_shift 185 = .ok (.iload 5, 2) := by decide +kernel
theorem dX12_shift_187 : decode cX12_shift 187 = .ok (.ireturn, 1) := by decide +kernel
def f_X12_shift_b150 : Nat → St → Int32 → Int32 → Int32 → Int32 → Option (Int32 × St)
  | 0, _, _, _, _, _ => none
  | n + 1, σ, x3, x4, x5, x6 => if x5 ≤ x6 then (some (x5, σ)) else (chk (x6 < 0 ∨ 60 ≤ x6.toNatClampNeg) (chk ((((60 : Int32) * x3) + x4) + x6 < 0 ∨ 360 ≤ ((((60 : Int32) * x3) + x4) + x6).toNatClampNeg) (bnd (sL σ 641 0 (vp_updL (σ.2.2.2.1 641 0) ((((60 : Int32) * x3) + x4) + x6).toNatClampNeg (σ.2.2.2.1 642 0 x6.toNatClampNeg))) (fun σ31 => bnd (x6 + 1) (fun v32 => f_X12_shift_b150 n σ31 x3 x4 x5 v32)))))
def f_X12_shift_b113 : Nat → St → Int32 → Int32 → Int32 → Int32 → Int32 → Int32 → Option (Int32 × St)
  | 0, _, _, _, _, _, _, _ => none
  | n + 1, σ, x1, x2, x3, x4, x5, x6 => if x5 ≤ x6 then (f_X12_shift_b150 256 σ x3 x4 x5 (0 : Int32)) else (chk ((((60 : Int32) * x1) + x2) + x6 < 0 ∨ 360 ≤ ((((60 : Int32) * x1) + x2) + x6).toNatClampNeg) (chk (x6 < 0 ∨ 60 ≤ x6.toNatClampNeg) (bnd (sL σ 642 0 (vp_updL (σ.2.2.2.1 642 0) x6.toNatClampNeg (σ.2.2.2.1 641 0 ((((60 : Int32) * x1) + x2) + x6).toNatClampNeg))) (fun σ26 => bnd (x6 + 1) (fun v27 => f_X12_shift_b113 n σ26 x1 x2 x3 x4 x5 v27)))))
def f_X12_shift (σ : St) (p1 : Int32) (p2 : Int32) (p3 : Int32) (p4 : Int32) (p5 : Int32) : Option (Int32 × St) := bnd1 (f_X12_isShelf p1) (fun r2 => if r2 = 0 then (some ((-1 : Int32), σ)) else (bnd1 (f_X12_isShelf p3) (fun r5 => if r5 = 0 then (some ((-1 : Int32), σ)) else (chk (p1 < 0 ∨ 6 ≤ p1.toNatClampNeg) (if σ.2.2.1 639 0 p1.toNatClampNeg < 0 then (some ((-11 : Int32), σ)) else (chk (p3 < 0 ∨ 6 ≤ p3.toNatClampNeg) (if 0 ≤ σ.2.2.1 639 0 p3.toNatClampNeg then (chk (p1 < 0 ∨ 6 ≤ p1.toNatClampNeg) (if σ.2.2.1 639 0 p1.toNatClampNeg < (50 : Int32) then (some ((-12 : Int32), σ)) else (chk (p1 < 0 ∨ 6 ≤ p1.toNatClampNeg) (chk (p3 < 0 ∨ 6 ≤ p3.toNatClampNeg) (if σ.2.2.1 639 0 p1.toNatClampNeg = σ.2.2.1 639 0 p3.toNatClampNeg then (if p5 < 0 then (some ((-13 : Int32), σ)) else (if p2 < 0 then (some ((-13 : Int32), σ)) else (if p4 < 0 then (some ((-13 : Int32), σ)) else (chk (p1 < 0 ∨ 6 ≤ p1.toNatClampNeg) (if (σ.2.2.1 640 0 p1.toNatClampNeg) - p5 < p2 then (some ((-13 : Int32), σ)) else (chk (p3 < 0 ∨ 6 ≤ p3.toNatClampNeg) (if p4 ≤ (σ.2.2.1 640 0 p3.toNatClampNeg) - p5 then (f_X12_shift_b113 256 σ p1 p2 p3 p4 p5 (0 : Int32)) else (some ((-13 : Int32), σ))))))))) else (some ((-12 : Int32), σ))))))) else (some ((-11 : Int32), σ)))))))))
set_option maxHeartbeats 4000000 in
set_option maxRecDepth 100000 in
theorem w_X12_shift_b150 {p : Program} {l : Launch} {e : Env} {s : State} {m : MethodId} {args : Array Value} {below : List Frame} {meth : Method} {c : Code} {g : va_G} {ts : ClassId × ClassId × ClassId} {A : Nat → Prop} {Q : State → Prop} {a : Nat → Nat} {r : Int32} {σ' : St} (C : FX p s m args meth c RX12 cX12_shift 7 g ts A) (hQ : RetI p l e (rk 2 45) s m args below meth c cX12_shift g (WM ts a) A r σ' Q) : ∀ (n : Nat) (σ : St) (x3 : Int32) (x4 : Int32) (x5 : Int32) (x6 : Int32) (H : Heap) (locs : List Loc) (ls : Array Slot), f_X12_shift_b150 n σ x3 x4 x5 x6 = some (r, σ') → va_P g classes (WM ts a σ) H → va_D A (WM ts a σ) → va_S A s.heap H locs → lv_has ls 7 [(0, .ref (a 0)), (3, .int x3), (4, .int x4), (5, .int x5), (6, .int x6)] → W p l e (rk 2 45) s m args below meth c H locs 0 0 Q (F0 m 150 ls []) := by
  have hx := C.1
  have hb := C.2.1
  have hown := C.2.2.2.1
  have hts := C.2.2.2.2.1
  intro n
  induction n with
  | zero =>
    intro σ x3 x4 x5 x6 H locs ls hf
    cases hf
  | succ n ih =>
    intro σ x3 x4 x5 x6 H locs ls hf hP hD hS hl
    rw [f_X12_shift_b150] at hf
    refine lv_iload hx hb dX12_shift_150 (lv_at hl 4 rfl) ?_
    refine lv_iload hx hb dX12_shift_152 (lv_at hl 3 rfl) ?_
    refine lv_icmp_ge (tgt := 185) hx hb dX12_shift_154 (by decide) (fun c28 => ?_) (fun c28 => ?_)
    · replace hf := ipos c28 hf
      refine lv_iload hx hb dX12_shift_185 (lv_at hl 3 rfl) ?_
      exact retI hQ hf dX12_shift_187 hP hD hS
    · replace hf := ineg c28 hf
      refine lv_aload_n hx hb dX12_shift_157 rfl (lv_at hl 0 rfl) ?_
      refine G_X12_items C hP q_1113 dX12_shift_158 ?_
      refine lv_bipush (v := 60) hx hb dX12_shift_161 (by decide) ?_
      refine lv_iload_n hx hb dX12_shift_163 rfl (lv_at hl 1 rfl) ?_
      refine lv_imul hx hb dX12_shift_164 ?_
      refine lv_iload hx hb dX12_shift_165 (lv_at hl 2 rfl) ?_
      refine lv_iadd hx hb dX12_shift_167 ?_
      refine lv_iload hx hb dX12_shift_168 (lv_at hl 4 rfl) ?_
      refine lv_iadd hx hb dX12_shift_170 ?_
      refine lv_aload_n hx hb dX12_shift_171 rfl (lv_at hl 0 rfl) ?_
      refine G_X12_carried C hP q_1114 dX12_shift_172 ?_
      refine lv_iload hx hb dX12_shift_175 (lv_at hl 4 rfl) ?_
      obtain ⟨h29, hf⟩ := chk_some hf
      refine AL_X12_carried C hP h29 dX12_shift_177 ?_
      obtain ⟨h30, hf⟩ := chk_some hf
      refine AS_X12_items C hP hD hS h30 dX12_shift_178 (fun H locs hP hD hS => ?_)
      refine nameS hP hD hf (fun σ31 hP hD hf => ?_)
      obtain ⟨v32, ev32⟩ : ∃ z : Int32, z = x6 + 1 := ⟨_, rfl⟩
      replace hf := bnd_at ev32 hf
      refine lv_iinc (v := v32) (lv' := [(6, .int v32), (0, .ref (a 0)), (3, .int x3), (4, .int x4), (5, .int x5)]) hx hb dX12_shift_179 hl (k := 4) rfl (by rw [ev32]; rfl) (by decide) rfl (fun ls hl => ?_)
      refine lv_goto (tgt := 150) hx hb dX12_shift_182 (by decide) ?_
      exact ih _ _ _ _ _ _ _ _ hf hP hD hS (lv_sub hl [1, 2, 3, 4, 0] rfl)
set_option maxHeartbeats 4000000 in
set_option maxRecDepth 100000 in
theorem w_X12_shift_b113 {p : Program} {l : Launch} {e : Env} {s : State} {m : MethodId} {args : Array Value} {below : List Frame} {meth : Method} {c : Code} {g : va_G} {ts : ClassId × ClassId × ClassId} {A : Nat → Prop} {Q : State → Prop} {a : Nat → Nat} {r : Int32} {σ' : St} (C : FX p s m args meth c RX12 cX12_shift 7 g ts A) (hQ : RetI p l e (rk 2 45) s m args below meth c cX12_shift g (WM ts a) A r σ' Q) : ∀ (n : Nat) (σ : St) (x1 : Int32) (x2 : Int32) (x3 : Int32) (x4 : Int32) (x5 : Int32) (x6 : Int32) (H : Heap) (locs : List Loc) (ls : Array Slot), f_X12_shift_b113 n σ x1 x2 x3 x4 x5 x6 = some (r, σ') → va_P g classes (WM ts a σ) H → va_D A (WM ts a σ) → va_S A s.heap H locs → lv_has ls 7 [(0, .ref (a 0)), (1, .int x1), (2, .int x2), (3, .int x3), (4, .int x4), (5, .int x5), (6, .int x6)] → W p l e (rk 2 45) s m args below meth c H locs 0 0 Q (F0 m 113 ls []) := by
  have hx := C.1
  have hb := C.2.1
  have hown := C.2.2.2.1
  have hts := C.2.2.2.2.1
  intro n
  induction n with
  | zero =>
    intro σ x1 x2 x3 x4 x5 x6 H locs ls hf
    cases hf
  | succ n ih =>
    intro σ x1 x2 x3 x4 x5 x6 H locs ls hf hP hD hS hl
    rw [f_X12_shift_b113] at hf
    refine lv_iload hx hb dX12_shift_113 (lv_at hl 6 rfl) ?_
    refine lv_iload hx hb dX12_shift_115 (lv_at hl 5 rfl) ?_
    refine lv_icmp_ge (tgt := 147) hx hb dX12_shift_117 (by decide) (fun c23 => ?_) (fun c23 => ?_)
    · replace hf := ipos c23 hf
      refine lv_iconst (v := 0) hx hb dX12_shift_147 (by decide) ?_
      refine lv_istore (lv' := [(6, .int (0 : Int32)), (0, .ref (a 0)), (1, .int x1), (2, .int x2), (3, .int x3), (4, .int x4), (5, .int x5)]) hx hb dX12_shift_148 hl (by decide) rfl (fun ls hl => ?_)
      exact w_X12_shift_b150 C hQ 256 _ _ _ _ _ _ _ _ hf hP hD hS (lv_sub hl [1, 4, 5, 6, 0] rfl)
    · replace hf := ineg c23 hf
      refine lv_aload_n hx hb dX12_shift_120 rfl (lv_at hl 0 rfl) ?_
      refine G_X12_carried C hP q_1114 dX12_shift_121 ?_
      refine lv_iload hx hb dX12_shift_124 (lv_at hl 6 rfl) ?_
      refine lv_aload_n hx hb dX12_shift_126 rfl (lv_at hl 0 rfl) ?_
      refine G_X12_items C hP q_1113 dX12_shift_127 ?_
      refine lv_bipush (v := 60) hx hb dX12_shift_130 (by decide) ?_
      refine lv_iload_n hx hb dX12_shift_132 rfl (lv_at hl 1 rfl) ?_
      refine lv_imul hx hb dX12_shift_133 ?_
      refine lv_iload_n hx hb dX12_shift_134 rfl (lv_at hl 2 rfl) ?_
      refine lv_iadd hx hb dX12_shift_135 ?_
      refine lv_iload hx hb dX12_shift_136 (lv_at hl 6 rfl) ?_
      refine lv_iadd hx hb dX12_shift_138 ?_
      obtain ⟨h24, hf⟩ := chk_some hf
      refine AL_X12_items C hP h24 dX12_shift_139 ?_
      obtain ⟨h25, hf⟩ := chk_some hf
      refine AS_X12_carried C hP hD hS h25 dX12_shift_140 (fun H locs hP hD hS => ?_)
      refine nameS hP hD hf (fun σ26 hP hD hf => ?_)
      obtain ⟨v27, ev27⟩ : ∃ z : Int32, z = x6 + 1 := ⟨_, rfl⟩
      replace hf := bnd_at ev27 hf
      refine lv_iinc (v := v27) (lv' := [(6, .int v27), (0, .ref (a 0)), (1, .int x1), (2, .int x2), (3, .int x3), (4, .int x4), (5, .int x5)]) hx hb dX12_shift_141 hl (k := 6) rfl (by rw [ev27]; rfl) (by decide) rfl (fun ls hl => ?_)
      refine lv_goto (tgt := 113) hx hb dX12_shift_144 (by decide) ?_
      exact ih _ _ _ _ _ _ _ _ _ _ hf hP hD hS (lv_sub hl [1, 2, 3, 4, 5, 6, 0] rfl)
set_option maxHeartbeats 4000000 in
set_option maxRecDepth 100000 in
theorem c_X12_shift {l : Launch} {g : va_G} {ts : ClassId × ClassId × ClassId} {a : Nat → Nat} {σ : St} {p1 : Int32} {p2 : Int32} {p3 : Int32} {p4 : Int32} {p5 : Int32} {r : Int32} {σ' : St} (hf : f_X12_shift σ p1 p2 p3 p4 p5 = some (r, σ')) : ConI l g ts (WM ts a) yX12_shift cX12_shift 7 (some .int) (rk 2 45) σ [.ref (a 0), .int p1, .int p2, .int p3, .int p4, .int p5] r σ' := by
  refine ConI_mk .int rfl rfl rfl rfl (by decide) (Nat.le_of_ble_eq_true rfl) ?_
  intro p e s m below meth c A Q ls C hQ hP hD hS hl
  have C : FX p s m _ meth c RX12 cX12_shift 7 g ts A := C
  have hx := C.1
  have hb := C.2.1
  have hown := C.2.2.2.1
  have hts := C.2.2.2.2.1
  have hl : lv_has ls 7 [(0, .ref (a 0)), (1, .int p1), (2, .int p2), (3, .int p3), (4, .int p4), (5, .int p5)] := hl
  rw [f_X12_shift] at hf
  refine lv_iload_n hx hb dX12_shift_0 rfl (lv_at hl 1 rfl) ?_
  obtain ⟨r2, h1, hf⟩ := bnd1_some hf
  refine tI [] C hP hD hS (c_X12_isShelf h1) ms_X12_isShelf q_1214 dX12_shift_1 ⟨Nat.le_of_ble_eq_true rfl, Nat.le_of_ble_eq_true rfl⟩ ⟨Nat.zero_le _, Nat.zero_le _⟩ rfl rfl (Nat.le_of_ble_eq_true rfl) hl.1 (fun H locs hP hD hS => ?_)
  refine lv_if_eq (tgt := 14) hx hb dX12_shift_4 (by decide) (fun c3 => ?_) (fun c3 => ?_)
  · replace hf := ipos c3 hf
    refine lv_iconst (v := -1) hx hb dX12_shift_14 (by decide) ?_
    exact retI hQ hf dX12_shift_15 hP hD hS
  · replace hf := ineg c3 hf
    refine lv_iload_n hx hb dX12_shift_7 rfl (lv_at hl 3 rfl) ?_
    obtain ⟨r5, h4, hf⟩ := bnd1_some hf
    refine tI [] C hP hD hS (c_X12_isShelf h4) ms_X12_isShelf q_1214 dX12_shift_8 ⟨Nat.le_of_ble_eq_true rfl, Nat.le_of_ble_eq_true rfl⟩ ⟨Nat.zero_le _, Nat.zero_le _⟩ rfl rfl (Nat.le_of_ble_eq_true rfl) hl.1 (fun H locs hP hD hS => ?_)
    refine lv_if_ne (tgt := 16) hx hb dX12_shift_11 (by decide) (fun c6 => ?_) (fun c6 => ?_)
    · replace hf := ineg c6 hf
      refine lv_aload_n hx hb dX12_shift_16 rfl (lv_at hl 0 rfl) ?_
      refine G_X12_shelf C hP q_1111 dX12_shift_17 ?_
      refine lv_iload_n hx hb dX12_shift_20 rfl (lv_at hl 1 rfl) ?_
      obtain ⟨h7, hf⟩ := chk_some hf
      refine AL_X12_shelf C hP h7 dX12_shift_21 ?_
      refine lv_if_lt (tgt := 34) hx hb dX12_shift_22 (by decide) (fun c8 => ?_) (fun c8 => ?_)
      · replace hf := ipos c8 hf
        refine lv_bipush (v := -11) hx hb dX12_shift_34 (by decide) ?_
        exact retI hQ hf dX12_shift_36 hP hD hS
      · replace hf := ineg c8 hf
        refine lv_aload_n hx hb dX12_shift_25 rfl (lv_at hl 0 rfl) ?_
        refine G_X12_shelf C hP q_1111 dX12_shift_26 ?_
        refine lv_iload_n hx hb dX12_shift_29 rfl (lv_at hl 3 rfl) ?_
        obtain ⟨h9, hf⟩ := chk_some hf
        refine AL_X12_shelf C hP h9 dX12_shift_30 ?_
        refine lv_if_ge (tgt := 37) hx hb dX12_shift_31 (by decide) (fun c10 => ?_) (fun c10 => ?_)
        · replace hf := ipos c10 hf
          refine lv_aload_n hx hb dX12_shift_37 rfl (lv_at hl 0 rfl) ?_
          refine G_X12_shelf C hP q_1111 dX12_shift_38 ?_
          refine lv_iload_n hx hb dX12_shift_41 rfl (lv_at hl 1 rfl) ?_
          obtain ⟨h11, hf⟩ := chk_some hf
          refine AL_X12_shelf C hP h11 dX12_shift_42 ?_
          refine lv_bipush (v := 50) hx hb dX12_shift_43 (by decide) ?_
          refine lv_icmp_lt (tgt := 63) hx hb dX12_shift_45 (by decide) (fun c12 => ?_) (fun c12 => ?_)
          · replace hf := ipos c12 hf
            refine lv_bipush (v := -12) hx hb dX12_shift_63 (by decide) ?_
            exact retI hQ hf dX12_shift_65 hP hD hS
          · replace hf := ineg c12 hf
            refine lv_aload_n hx hb dX12_shift_48 rfl (lv_at hl 0 rfl) ?_
            refine G_X12_shelf C hP q_1111 dX12_shift_49 ?_
            refine lv_iload_n hx hb dX12_shift_52 rfl (lv_at hl 1 rfl) ?_
            obtain ⟨h13, hf⟩ := chk_some hf
            refine AL_X12_shelf C hP h13 dX12_shift_53 ?_
            refine lv_aload_n hx hb dX12_shift_54 rfl (lv_at hl 0 rfl) ?_
            refine G_X12_shelf C hP q_1111 dX12_shift_55 ?_
            refine lv_iload_n hx hb dX12_shift_58 rfl (lv_at hl 3 rfl) ?_
            obtain ⟨h14, hf⟩ := chk_some hf
            refine AL_X12_shelf C hP h14 dX12_shift_59 ?_
            refine lv_icmp_eq (tgt := 66) hx hb dX12_shift_60 (by decide) (fun c15 => ?_) (fun c15 => ?_)
            · replace hf := ipos c15 hf
              refine lv_iload hx hb dX12_shift_66 (lv_at hl 5 rfl) ?_
              refine lv_if_lt (tgt := 107) hx hb dX12_shift_68 (by decide) (fun c16 => ?_) (fun c16 => ?_)
              · replace hf := ipos c16 hf
                refine lv_bipush (v := -13) hx hb dX12_shift_107 (by decide) ?_
                exact retI hQ hf dX12_shift_109 hP hD hS
              · replace hf := ineg c16 hf
                refine lv_iload_n hx hb dX12_shift_71 rfl (lv_at hl 2 rfl) ?_
                refine lv_if_lt (tgt := 107) hx hb dX12_shift_72 (by decide) (fun c17 => ?_) (fun c17 => ?_)
                · replace hf := ipos c17 hf
                  refine lv_bipush (v := -13) hx hb dX12_shift_107 (by decide) ?_
                  exact retI hQ hf dX12_shift_109 hP hD hS
                · replace hf := ineg c17 hf
                  refine lv_iload hx hb dX12_shift_75 (lv_at hl 4 rfl) ?_
                  refine lv_if_lt (tgt := 107) hx hb dX12_shift_77 (by decide) (fun c18 => ?_) (fun c18 => ?_)
                  · replace hf := ipos c18 hf
                    refine lv_bipush (v := -13) hx hb dX12_shift_107 (by decide) ?_
                    exact retI hQ hf dX12_shift_109 hP hD hS
                  · replace hf := ineg c18 hf
                    refine lv_iload_n hx hb dX12_shift_80 rfl (lv_at hl 2 rfl) ?_
                    refine lv_aload_n hx hb dX12_shift_81 rfl (lv_at hl 0 rfl) ?_
                    refine G_X12_many C hP q_1112 dX12_shift_82 ?_
                    refine lv_iload_n hx hb dX12_shift_85 rfl (lv_at hl 1 rfl) ?_
                    obtain ⟨h19, hf⟩ := chk_some hf
                    refine AL_X12_many C hP h19 dX12_shift_86 ?_
                    refine lv_iload hx hb dX12_shift_87 (lv_at hl 5 rfl) ?_
                    refine lv_isub hx hb dX12_shift_89 ?_
                    refine lv_icmp_gt (tgt := 107) hx hb dX12_shift_90 (by decide) (fun c20 => ?_) (fun c20 => ?_)
                    · replace hf := ipos c20 hf
                      refine lv_bipush (v := -13) hx hb dX12_shift_107 (by decide) ?_
                      exact retI hQ hf dX12_shift_109 hP hD hS
                    · replace hf := ineg c20 hf
                      refine lv_iload hx hb dX12_shift_93 (lv_at hl 4 rfl) ?_
                      refine lv_aload_n hx hb dX12_shift_95 rfl (lv_at hl 0 rfl) ?_
                      refine G_X12_many C hP q_1112 dX12_shift_96 ?_
                      refine lv_iload_n hx hb dX12_shift_99 rfl (lv_at hl 3 rfl) ?_
                      obtain ⟨h21, hf⟩ := chk_some hf
                      refine AL_X12_many C hP h21 dX12_shift_100 ?_
                      refine lv_iload hx hb dX12_shift_101 (lv_at hl 5 rfl) ?_
                      refine lv_isub hx hb dX12_shift_103 ?_
                      refine lv_icmp_le (tgt := 110) hx hb dX12_shift_104 (by decide) (fun c22 => ?_) (fun c22 => ?_)
                      · replace hf := ipos c22 hf
                        refine lv_iconst (v := 0) hx hb dX12_shift_110 (by decide) ?_
                        refine lv_istore (lv' := [(6, .int (0 : Int32)), (0, .ref (a 0)), (1, .int p1), (2, .int p2), (3, .int p3), (4, .int p4), (5, .int p5)]) hx hb dX12_shift_111 hl (by decide) rfl (fun ls hl => ?_)
                        exact w_X12_shift_b113 C hQ 256 _ _ _ _ _ _ _ _ _ _ hf hP hD hS (lv_sub hl [1, 2, 3, 4, 5, 6, 0] rfl)
                      · replace hf := ineg c22 hf
                        refine lv_bipush (v := -13) hx hb dX12_shift_107 (by decide) ?_
                        exact retI hQ hf dX12_shift_109 hP hD hS
            · replace hf := ineg c15 hf
              refine lv_bipush (v := -12) hx hb dX12_shift_63 (by decide) ?_
              exact retI hQ hf dX12_shift_65 hP hD hS
        · replace hf := ineg c10 hf
          refine lv_bipush (v := -11) hx hb dX12_shift_34 (by decide) ?_
          exact retI hQ hf dX12_shift_36 hP hD hS
    · replace hf := ipos c6 hf
      refine lv_iconst (v := -1) hx hb dX12_shift_14 (by decide) ?_
      exact retI hQ hf dX12_shift_15 hP hD hS
theorem dX12_taken_0 : decode cX12_taken 0 = .ok (.iload_n 1, 1) := by decide +kernel
theorem dX12_taken_1 : decode cX12_taken 1 = .ok (.invokestatic 98, 3) := by decide +kernel
theorem dX12_taken_4 : decode cX12_taken 4 = .ok (.ifCond .eq 15, 3) := by decide +kernel
theorem dX12_taken_7 : decode cX12_taken 7 = .ok (.iload_n 2, 1) := by decide +kernel
theorem dX12_taken_8 : decode cX12_taken 8 = .ok (.i2l, 1) := by decide +kernel
theorem dX12_taken_9 : decode cX12_taken 9 = .ok (.lconst 0, 1) := by decide +kernel
theorem dX12_taken_10 : decode cX12_taken 10 = .ok (.ldc2_w 308, 3) := by decide +kernel
theorem dX12_taken_13 : decode cX12_taken 13 = .ok (.invokestatic 91, 3) := by decide +kernel
theorem dX12_taken_16 : decode cX12_taken 16 = .ok (.ifCond .ne 5, 3) := by decide +kernel
theorem dX12_taken_19 : decode cX12_taken 19 = .ok (.iconst (-1), 1) := by decide +kernel
theorem dX12_taken_20 : decode cX12_taken 20 = .ok (.ireturn, 1) := by decide +kernel
theorem dX12_taken_21 : decode cX12_taken 21 = .ok (.aload_n 0, 1) := by decide +kernel
theorem dX12_taken_22 : decode cX12_taken 22 = .ok (.getfield 64, 3) := by decide +kernel
theorem dX12_taken_25 : decode cX12_taken 25 = .ok (.iload_n 1, 1) := by decide +kernel
theorem dX12_taken_26 : decode cX12_taken 26 = .ok (.iaload, 1) := by decide +kernel
theorem dX12_taken_27 : decode cX12_taken 27 = .ok (.ifCond .ge 6, 3) := by decide +kernel
theorem dX12_taken_30 : decode cX12_taken 30 = .ok (.bipush (-11), 2) := by decide +kernel
theorem dX12_taken_32 : decode cX12_taken 32 = .ok (.ireturn, 1) := by decide +kernel
theorem dX12_taken_33 : decode cX12_taken 33 = .ok (.aload_n 0, 1) := by decide +kernel
theorem dX12_taken_34 : decode cX12_taken 34 = .ok (.getfield 64, 3) := by decide +kernel
theorem dX12_taken_37 : decode cX12_taken 37 = .ok (.iload_n 1, 1) := by decide +kernel
theorem dX12_taken_38 : decode cX12_taken 38 = .ok (.iaload, 1) := by decide +kernel
theorem dX12_taken_39 : decode cX12_taken 39 = .ok (.bipush 50, 2) := by decide +kernel
theorem dX12_taken_41 : decode cX12_taken 41 = .ok (.if_icmp .lt 6, 3) := by decide +kernel
theorem dX12_taken_44 : decode cX12_taken 44 = .ok (.bipush (-12), 2) := by decide +kernel
theorem dX12_taken_46 : decode cX12_taken 46 = .ok (.ireturn, 1) := by decide +kernel
theorem dX12_taken_47 : decode cX12_taken 47 = .ok (.aload_n 0, 1) := by decide +kernel
theorem dX12_taken_48 : decode cX12_taken 48 = .ok (.aload_n 0, 1) := by decide +kernel
theorem dX12_taken_49 : decode cX12_taken 49 = .ok (.getfield 64, 3) := by decide +kernel
theorem dX12_taken_52 : decode cX12_taken 52 = .ok (.iload_n 1, 1) := by decide +kernel
theorem dX12_taken_53 : decode cX12_taken 53 = .ok (.iaload, 1) := by decide +kernel
theorem dX12_taken_54 : decode cX12_taken 54 = .ok (.invokevirtual 347, 3) := by decide +kernel
theorem dX12_taken_57 : decode cX12_taken 57 = .ok (.istore_n 3, 1) := by decide +kernel
theorem dX12_taken_58 : decode cX12_taken 58 = .ok (.iload_n 3, 1) := by decide +kernel
theorem dX12_taken_59 : decode cX12_taken 59 = .ok (.iload_n 2, 1) := by decide +kernel
theorem dX12_taken_60 : decode cX12_taken 60 = .ok (.if_icmp .eq 15, 3) := by decide +kernel
theorem dX12_taken_63 : decode cX12_taken 63 = .ok (.iload_n 3, 1) := by decide +kernel
theorem dX12_taken_64 : decode cX12_taken 64 = .ok (.ifCond .le 11, 3) := by decide +kernel
theorem dX12_taken_67 : decode cX12_taken 67 = .ok (.iload_n 3, 1) := by decide +kernel
theorem dX12_taken_68 : decode cX12_taken 68 = .ok (.invokestatic 350, 3) := by decide +kernel
theorem dX12_taken_71 : decode cX12_taken 71 = .ok (.istore_n 3, 1) := by decide +kernel
theorem dX12_taken_72 : decode cX12_taken 72 = .ok (.goto (-14), 3) := by decide +kernel
theorem dX12_taken_75 : decode cX12_taken 75 = .ok (.iload_n 3, 1) := by decide +kernel
theorem dX12_taken_76 : decode cX12_taken 76 = .ok (.iload_n 2, 1) := by decide +kernel
theorem dX12_taken_77 : decode cX12_taken 77 = .ok (.if_icmp .ne 16, 3) := by decide +kernel
theorem dX12_taken_80 : decode cX12_taken 80 = .ok (.aload_n 0, 1) := by decide +kernel
theorem dX12_taken_81 : decode cX12_taken 81 = .ok (.aload_n 0, 1) := by decide +kernel
theorem dX12_taken_82 : decode cX12_taken 82 = .ok (.getfield 64, 3) := by decide +kernel
theorem dX12_taken_85 : decode cX12_taken 85 = .ok (.iload_n 1, 1) := by decide +kernel
theorem dX12_taken_86 : decode cX12_taken 86 = .ok (.iaload, 1) := by decide +kernel
theorem dX12_taken_87 : decode cX12_taken 87 = .ok (.invokevirtual 347, 3) := by decide +kernel
theorem dX12_taken_90 : decode cX12_taken 90 = .ok (.goto 5, 3) := by decide +kernel
theorem dX12_taken_93 : decode cX12_taken 93 = .ok (.bipush (-12), 2) := by decide +kernel
theorem dX12_taken_95 : decode cX12_taken 95 = .ok (.ireturn, 1) := by decide +kernel
def f_X12_taken_b75 (σ : St) (x1 : Int32) (x2 : Int32) (x3 : Int32) : Option (Int32 × St) := if x3 = x2 then (chk (x1 < 0 ∨ 6 ≤ x1.toNatClampNeg) (bnd2 (f_X12_kindOf σ (σ.2.2.1 639 0 x1.toNatClampNeg)) (fun r22 σ23 => some (r22, σ23)))) else (some ((-12 : Int32), σ))
def f_X12_taken_b58 : Nat → St → Int32 → Int32 → Int32 → Option (Int32 × St)
  | 0, _, _, _, _ => none
  | n + 1, σ, x1, x2, x3 => if x3 = x2 then (f_X12_taken_b75 σ x1 x2 x3) else (if x3 ≤ 0 then (f_X12_taken_b75 σ x1 x2 x3) else (bnd1 (f_X12_above x3) (fun r18 => f_X12_taken_b58 n σ x1 x2 r18)))
def f_X12_taken (σ : St) (p1 : Int32) (p2 : Int32) : Option (Int32 × St) := bnd1 (f_X12_isShelf p1) (fun r2 => if r2 = 0 then (some ((-1 : Int32), σ)) else (bnd1 (f_X12_within ((p2 : Int32).toInt64) (0 : Int64) (7 : Int64)) (fun r5 => if r5 = 0 then (some ((-1 : Int32), σ)) else (chk (p1 < 0 ∨ 6 ≤ p1.toNatClampNeg) (if 0 ≤ σ.2.2.1 639 0 p1.toNatClampNeg then (chk (p1 < 0 ∨ 6 ≤ p1.toNatClampNeg) (if σ.2.2.1 639 0 p1.toNatClampNeg < (50 : Int32) then (chk (p1 < 0 ∨ 6 ≤ p1.toNatClampNeg) (bnd2 (f_X12_kindOf σ (σ.2.2.1 639 0 p1.toNatClampNeg)) (fun r13 σ14 => f_X12_taken_b58 256 σ14 p1 p2 r13))) else (some ((-12 : Int32), σ)))) else (some ((-11 : Int32), σ)))))))
set_option maxHeartbeats 4000000 in
set_option maxRecDepth 100000 in
theorem w_X12_taken_b75 {p : Program} {l : Launch} {e : Env} {s : State} {m : MethodId} {args : Array Value} {below : List Frame} {meth : Method} {c : Code} {g : va_G} {ts : ClassId × ClassId × ClassId} {A : Nat → Prop} {Q : State → Prop} {a : Nat → Nat} {r : Int32} {σ' : St} (C : FX p s m args meth c RX12 cX12_taken 4 g ts A) (hQ : RetI p l e (rk 2 45) s m args below meth c cX12_taken g (WM ts a) A r σ' Q) : ∀ (σ : St) (x1 : Int32) (x2 : Int32) (x3 : Int32) (H : Heap) (locs : List Loc) (ls : Array Slot), f_X12_taken_b75 σ x1 x2 x3 = some (r, σ') → va_P g classes (WM ts a σ) H → va_D A (WM ts a σ) → va_S A s.heap H locs → lv_has ls 4 [(0, .ref (a 0)), (1, .int x1), (2, .int x2), (3, .int x3)] → W p l e (rk 2 45) s m args below meth c H locs 0 0 Q (F0 m 75 ls []) := by
  have hx := C.1
  have hb := C.2.1
  have hown := C.2.2.2.1
  have hts := C.2.2.2.2.1
  intro σ x1 x2 x3 H locs ls hf hP hD hS hl
  rw [f_X12_taken_b75] at hf
  refine lv_iload_n hx hb dX12_taken_75 rfl (lv_at hl 3 rfl) ?_
  refine lv_iload_n hx hb dX12_taken_76 rfl (lv_at hl 2 rfl) ?_
  refine lv_icmp_ne (tgt := 93) hx hb dX12_taken_77 (by decide) (fun c19 => ?_) (fun c19 => ?_)
  · replace hf := ineg c19 hf
    refine lv_bipush (v := -12) hx hb dX12_taken_93 (by decide) ?_
    exact retI hQ hf dX12_taken_95 hP hD hS
  · replace hf := ipos c19 hf
    refine lv_aload_n hx hb dX12_taken_80 rfl (lv_at hl 0 rfl) ?_
    refine lv_aload_n hx hb dX12_taken_81 rfl (lv_at hl 0 rfl) ?_
    refine G_X12_shelf C hP q_1111 dX12_taken_82 ?_
    refine lv_iload_n hx hb dX12_taken_85 rfl (lv_at hl 1 rfl) ?_
    obtain ⟨h20, hf⟩ := chk_some hf
    refine AL_X12_shelf C hP h20 dX12_taken_86 ?_
    obtain ⟨r22, σ23, h21, hf⟩ := bnd2_some hf
    refine vI [] C hP hD hS (c_X12_kindOf h21) mv_X12_kindOf q_1585 rv_X12 dX12_taken_87 ⟨Nat.le_of_ble_eq_true rfl, Nat.le_of_ble_eq_true rfl⟩ ⟨Nat.zero_le _, Nat.zero_le _⟩ rfl rfl (Nat.le_of_ble_eq_true rfl) hl.1 (fun H locs hP hD hS => ?_)
    refine lv_goto (tgt := 95) hx hb dX12_taken_90 (by decide) ?_
    exact retI hQ hf dX12_taken_95 hP hD hS
set_option maxHeartbeats 4000000 in
set_option maxRecDepth 100000 in
theorem w_X12_taken_b58 {p : Program} {l : Launch} {e : Env} {s : State} {m : MethodId} {args : Array Value} {below : List Frame} {meth : Method} {c : Code} {g : va_G} {ts : ClassId × ClassId × ClassId} {A : Nat → Prop} {Q : State → Prop} {a : Nat → Nat} {r : Int32} {σ' : St} (C : FX p s m args meth c RX12 cX12_taken 4 g ts A) (hQ : RetI p l e (rk 2 45) s m args below meth c cX12_taken g (WM ts a) A r σ' Q) : ∀ (n : Nat) (σ : St) (x1 : Int32) (x2 : Int32) (x3 : Int32) (H : Heap) (locs : List Loc) (ls : Array Slot), f_X12_taken_b58 n σ x1 x2 x3 = some (r, σ') → va_P g classes (WM ts a σ) H → va_D A (WM ts a σ) → va_S A s.heap H locs → lv_has ls 4 [(0, .ref (a 0)), (1, .int x1), (2, .int x2), (3, .int x3)] → W p l e (rk 2 45) s m args below meth c H locs 0 0 Q (F0 m 58 ls []) := by
  have hx := C.1
  have hb := C.2.1
  have hown := C.2.2.2.1
  have hts := C.2.2.2.2.1
  intro n
  induction n with
  | zero =>
    intro σ x1 x2 x3 H locs ls hf
    cases hf
  | succ n ih =>
    intro σ x1 x2 x3 H locs ls hf hP hD hS hl
    rw [f_X12_taken_b58] at hf
    refine lv_iload_n hx hb dX12_taken_58 rfl (lv_at hl 3 rfl) ?_
    refine lv_iload_n hx hb dX12_taken_59 rfl (lv_at hl 2 rfl) ?_
    refine lv_icmp_eq (tgt := 75) hx hb dX12_taken_60 (by decide) (fun c15 => ?_) (fun c15 => ?_)
    · replace hf := ipos c15 hf
      exact w_X12_taken_b75 C hQ _ _ _ _ _ _ _ hf hP hD hS (lv_sub hl [0, 1, 2, 3] rfl)
    · replace hf := ineg c15 hf
      refine lv_iload_n hx hb dX12_taken_63 rfl (lv_at hl 3 rfl) ?_
      refine lv_if_le (tgt := 75) hx hb dX12_taken_64 (by decide) (fun c16 => ?_) (fun c16 => ?_)
      · replace hf := ipos c16 hf
        exact w_X12_taken_b75 C hQ _ _ _ _ _ _ _ hf hP hD hS (lv_sub hl [0, 1, 2, 3] rfl)
      · replace hf := ineg c16 hf
        refine lv_iload_n hx hb dX12_taken_67 rfl (lv_at hl 3 rfl) ?_
        obtain ⟨r18, h17, hf⟩ := bnd1_some hf
        refine tI [] C hP hD hS (c_X12_above h17) ms_X12_above q_1589 dX12_taken_68 ⟨Nat.le_of_ble_eq_true rfl, Nat.le_of_ble_eq_true rfl⟩ ⟨Nat.zero_le _, Nat.zero_le _⟩ rfl rfl (Nat.le_of_ble_eq_true rfl) hl.1 (fun H locs hP hD hS => ?_)
        refine lv_istore_n (lv' := [(3, .int r18), (0, .ref (a 0)), (1, .int x1), (2, .int x2)]) hx hb dX12_taken_71 rfl hl (by decide) rfl (fun ls hl => ?_)
        refine lv_goto (tgt := 58) hx hb dX12_taken_72 (by decide) ?_
        exact ih _ _ _ _ _ _ _ hf hP hD hS (lv_sub hl [1, 2, 3, 0] rfl)
set_option maxHeartbeats 4000000 in
set_option maxRecDepth 100000 in
theorem c_X12_taken {l : Launch} {g : va_G} {ts : ClassId × ClassId × ClassId} {a : Nat → Nat} {σ : St} {p1 : Int32} {p2 : Int32} {r : Int32} {σ' : St} (hf : f_X12_taken σ p1 p2 = some (r, σ')) : ConI l g ts (WM ts a) yX12_taken cX12_taken 4 (some .int) (rk 2 45) σ [.ref (a 0), .int p1, .int p2] r σ' := by
  refine ConI_mk .int rfl rfl rfl rfl (by decide) (Nat.le_of_ble_eq_true rfl) ?_
  intro p e s m below meth c A Q ls C hQ hP hD hS hl
  have C : FX p s m _ meth c RX12 cX12_taken 4 g ts A := C
  have hx := C.1
  have hb := C.2.1
  have hown := C.2.2.2.1
  have hts := C.2.2.2.2.1
  have hl : lv_has ls 4 [(0, .ref (a 0)), (1, .int p1), (2, .int p2)] := hl
  rw [f_X12_taken] at hf
  refine lv_iload_n hx hb dX12_taken_0 rfl (lv_at hl 1 rfl) ?_
  obtain ⟨r2, h1, hf⟩ := bnd1_some hf
  refine tI [] C hP hD hS (c_X12_isShelf h1) ms_X12_isShelf q_1214 dX12_taken_1 ⟨Nat.le_of_ble_eq_true rfl, Nat.le_of_ble_eq_true rfl⟩ ⟨Nat.zero_le _, Nat.zero_le _⟩ rfl rfl (Nat.le_of_ble_eq_true rfl) hl.1 (fun H locs hP hD hS => ?_)
  refine lv_if_eq (tgt := 19) hx hb dX12_taken_4 (by decide) (fun c3 => ?_) (fun c3 => ?_)
  · replace hf := ipos c3 hf
    refine lv_iconst (v := -1) hx hb dX12_taken_19 (by decide) ?_
    exact retI hQ hf dX12_taken_20 hP hD hS
  · replace hf := ineg c3 hf
    refine lv_iload_n hx hb dX12_taken_7 rfl (lv_at hl 2 rfl) ?_
    refine lv_i2l (v := (p2 : Int32).toInt64) hx hb dX12_taken_8 rfl ?_
    refine lv_lconst (v := 0) hx hb dX12_taken_9 (by decide) ?_
    refine lv_ldc2 hx hb hown (hts _ q_1520) dX12_taken_10 ?_
    obtain ⟨r5, h4, hf⟩ := bnd1_some hf
    refine tI [] C hP hD hS (c_X12_within h4) ms_X12_within q_1218 dX12_taken_13 ⟨Nat.le_of_ble_eq_true rfl, Nat.le_of_ble_eq_true rfl⟩ ⟨Nat.zero_le _, Nat.zero_le _⟩ rfl rfl (Nat.le_of_ble_eq_true rfl) hl.1 (fun H locs hP hD hS => ?_)
    refine lv_if_ne (tgt := 21) hx hb dX12_taken_16 (by decide) (fun c6 => ?_) (fun c6 => ?_)
    · replace hf := ineg c6 hf
      refine lv_aload_n hx hb dX12_taken_21 rfl (lv_at hl 0 rfl) ?_
      refine G_X12_shelf C hP q_1111 dX12_taken_22 ?_
      refine lv_iload_n hx hb dX12_taken_25 rfl (lv_at hl 1 rfl) ?_
      obtain ⟨h7, hf⟩ := chk_some hf
      refine AL_X12_shelf C hP h7 dX12_taken_26 ?_
      refine lv_if_ge (tgt := 33) hx hb dX12_taken_27 (by decide) (fun c8 => ?_) (fun c8 => ?_)
      · replace hf := ipos c8 hf
        refine lv_aload_n hx hb dX12_taken_33 rfl (lv_at hl 0 rfl) ?_
        refine G_X12_shelf C hP q_1111 dX12_taken_34 ?_
        refine lv_iload_n hx hb dX12_taken_37 rfl (lv_at hl 1 rfl) ?_
        obtain ⟨h9, hf⟩ := chk_some hf
        refine AL_X12_shelf C hP h9 dX12_taken_38 ?_
        refine lv_bipush (v := 50) hx hb dX12_taken_39 (by decide) ?_
        refine lv_icmp_lt (tgt := 47) hx hb dX12_taken_41 (by decide) (fun c10 => ?_) (fun c10 => ?_)
        · replace hf := ipos c10 hf
          refine lv_aload_n hx hb dX12_taken_47 rfl (lv_at hl 0 rfl) ?_
          refine lv_aload_n hx hb dX12_taken_48 rfl (lv_at hl 0 rfl) ?_
          refine G_X12_shelf C hP q_1111 dX12_taken_49 ?_
          refine lv_iload_n hx hb dX12_taken_52 rfl (lv_at hl 1 rfl) ?_
          obtain ⟨h11, hf⟩ := chk_some hf
          refine AL_X12_shelf C hP h11 dX12_taken_53 ?_
          obtain ⟨r13, σ14, h12, hf⟩ := bnd2_some hf
          refine vI [] C hP hD hS (c_X12_kindOf h12) mv_X12_kindOf q_1585 rv_X12 dX12_taken_54 ⟨Nat.le_of_ble_eq_true rfl, Nat.le_of_ble_eq_true rfl⟩ ⟨Nat.zero_le _, Nat.zero_le _⟩ rfl rfl (Nat.le_of_ble_eq_true rfl) hl.1 (fun H locs hP hD hS => ?_)
          refine lv_istore_n (lv' := [(3, .int r13), (0, .ref (a 0)), (1, .int p1), (2, .int p2)]) hx hb dX12_taken_57 rfl hl (by decide) rfl (fun ls hl => ?_)
          exact w_X12_taken_b58 C hQ 256 _ _ _ _ _ _ _ hf hP hD hS (lv_sub hl [1, 2, 3, 0] rfl)
        · replace hf := ineg c10 hf
          refine lv_bipush (v := -12) hx hb dX12_taken_44 (by decide) ?_
          exact retI hQ hf dX12_taken_46 hP hD hS
      · replace hf := ineg c8 hf
        refine lv_bipush (v := -11) hx hb dX12_taken_30 (by decide) ?_
        exact retI hQ hf dX12_taken_32 hP hD hS
    · replace hf := ipos c6 hf
      refine lv_iconst (v := -1) hx hb dX12_taken_19 (by decide) ?_
      exact retI hQ hf dX12_taken_20 hP hD hS
theorem dX12_count_0 : decode cX12_count 0 = .ok (.iload_n 1, 1) := by decide +kernel
theorem dX12_count_1 : decode cX12_count 1 = .ok (.tableswitch 60 0 4 #[35, 40, 45, 50, 55], 35) := by decide +kernel
theorem dX12_count_36 : decode cX12_count 36 = .ok (.aload_n 0, 1) := by decide +kernel
theorem dX12_count_37 : decode cX12_count 37 = .ok (.getfield 95, 3) := by decide +kernel
theorem dX12_count_40 : decode cX12_count 40 = .ok (.ireturn, 1) := by decide +kernel
theorem dX12_count_41 : decode cX12_count 41 = .ok (.aload_n 0, 1) := by decide +kernel
theorem dX12_count_42 : decode cX12_count 42 = .ok (.getfield 141, 3) := by decide +kernel
theorem dX12_count_45 : decode cX12_count 45 = .ok (.ireturn, 1) := by decide +kernel
theorem dX12_count_46 : decode cX12_count 46 = .ok (.aload_n 0, 1) := by decide +kernel
theorem dX12_count_47 : decode cX12_count 47 = .ok (.getfield 83, 3) := by decide +kernel
theorem dX12_count_50 : decode cX12_count 50 = .ok (.ireturn, 1) := by decide +kernel
theorem dX12_count_51 : decode cX12_count 51 = .ok (.aload_n 0, 1) := by decide +kernel
theorem dX12_count_52 : decode cX12_count 52 = .ok (.getfield 305, 3) := by decide +kernel
theorem dX12_count_55 : decode cX12_count 55 = .ok (.ireturn, 1) := by decide +kernel
theorem dX12_count_56 : decode cX12_count 56 = .ok (.aload_n 0, 1) := by decide +kernel
theorem dX12_count_57 : decode cX12_count 57 = .ok (.getfield 310, 3) := by decide +kernel
theorem dX12_count_60 : decode cX12_count 60 = .ok (.ireturn, 1) := by decide +kernel
theorem dX12_count_61 : decode cX12_count 61 = .ok (.iconst (-1), 1) := by decide +kernel
theorem dX12_count_62 : decode cX12_count 62 = .ok (.ireturn, 1) := by decide +kernel
def f_X12_count (σ : St) (p1 : Int32) : Option (Int32 × St) := if p1 = 0 then (some (σ.1 606 0, σ)) else (if p1 = 1 then (some (σ.1 610 0, σ)) else (if p1 = 2 then (some (σ.1 605 0, σ)) else (if p1 = 3 then (some (σ.1 633 0, σ)) else (if p1 = 4 then (some (σ.1 636 0, σ)) else (some ((-1 : Int32), σ))))))
set_option maxHeartbeats 4000000 in
set_option maxRecDepth 100000 in
theorem c_X12_count {l : Launch} {g : va_G} {ts : ClassId × ClassId × ClassId} {a : Nat → Nat} {σ : St} {p1 : Int32} {r : Int32} {σ' : St} (hf : f_X12_count σ p1 = some (r, σ')) : ConI l g ts (WM ts a) yX12_count cX12_count 2 (some .int) (rk 0 0) σ [.ref (a 0), .int p1] r σ' := by
  refine ConI_mk .int rfl rfl rfl rfl (by decide) (Nat.le_of_ble_eq_true rfl) ?_
  intro p e s m below meth c A Q ls C hQ hP hD hS hl
  have C : FX p s m _ meth c RX12 cX12_count 2 g ts A := C
  have hx := C.1
  have hb := C.2.1
  have hown := C.2.2.2.1
  have hts := C.2.2.2.2.1
  have hl : lv_has ls 2 [(0, .ref (a 0)), (1, .int p1)] := hl
  rw [f_X12_count] at hf
  refine lv_iload_n hx hb dX12_count_0 rfl (lv_at hl 1 rfl) ?_
  by_cases c1 : p1 = 0
  · replace hf := ipos c1 hf
    refine lv_tableIn (off := 35) (tgt := 36) hx hb dX12_count_1 (by rw [c1]; decide) (by rw [c1]; decide) (by rw [c1]; rfl) (by decide) ?_
    refine lv_aload_n hx hb dX12_count_36 rfl (lv_at hl 0 rfl) ?_
    refine G_X12_namesMany C hP q_1078 dX12_count_37 ?_
    exact retI hQ hf dX12_count_40 hP hD hS
  · replace hf := ineg c1 hf
    by_cases c2 : p1 = 1
    · replace hf := ipos c2 hf
      refine lv_tableIn (off := 40) (tgt := 41) hx hb dX12_count_1 (by rw [c2]; decide) (by rw [c2]; decide) (by rw [c2]; rfl) (by decide) ?_
      refine lv_aload_n hx hb dX12_count_41 rfl (lv_at hl 0 rfl) ?_
      refine G_X12_tapeMany C hP q_1082 dX12_count_42 ?_
      exact retI hQ hf dX12_count_45 hP hD hS
    · replace hf := ineg c2 hf
      by_cases c3 : p1 = 2
      · replace hf := ipos c3 hf
        refine lv_tableIn (off := 45) (tgt := 46) hx hb dX12_count_1 (by rw [c3]; decide) (by rw [c3]; decide) (by rw [c3]; rfl) (by decide) ?_
        refine lv_aload_n hx hb dX12_count_46 rfl (lv_at hl 0 rfl) ?_
        refine G_X12_done C hP q_1077 dX12_count_47 ?_
        exact retI hQ hf dX12_count_50 hP hD hS
      · replace hf := ineg c3 hf
        by_cases c4 : p1 = 3
        · replace hf := ipos c4 hf
          refine lv_tableIn (off := 50) (tgt := 51) hx hb dX12_count_1 (by rw [c4]; decide) (by rw [c4]; decide) (by rw [c4]; rfl) (by decide) ?_
          refine lv_aload_n hx hb dX12_count_51 rfl (lv_at hl 0 rfl) ?_
          refine G_X12_bodies C hP q_1105 dX12_count_52 ?_
          exact retI hQ hf dX12_count_55 hP hD hS
        · replace hf := ineg c4 hf
          by_cases c5 : p1 = 4
          · replace hf := ipos c5 hf
            refine lv_tableIn (off := 55) (tgt := 56) hx hb dX12_count_1 (by rw [c5]; decide) (by rw [c5]; decide) (by rw [c5]; rfl) (by decide) ?_
            refine lv_aload_n hx hb dX12_count_56 rfl (lv_at hl 0 rfl) ?_
            refine G_X12_ran C hP q_1108 dX12_count_57 ?_
            exact retI hQ hf dX12_count_60 hP hD hS
          · replace hf := ineg c5 hf
            refine lv_tableOut (tgt := 61) hx hb dX12_count_1 (by have uc1 := lv_neT c1 (a := 0) (by decide); have uc2 := lv_neT c2 (a := 1) (by decide); have uc3 := lv_neT c3 (a := 2) (by decide); have uc4 := lv_neT c4 (a := 3) (by decide); have uc5 := lv_neT c5 (a := 4) (by decide); omega) (by decide) ?_
            refine lv_iconst (v := -1) hx hb dX12_count_61 (by decide) ?_
            exact retI hQ hf dX12_count_62 hP hD hS
