theorem mv_X12_sure : MV yX12_sure cX12_sure 5 (some .int) 2 := ⟨q_1363, q_1364, q_71, q_1365, by decide +kernel, by decide +kernel, by decide +kernel⟩
theorem mv_X12_sumOf : MV yX12_sumOf cX12_sumOf 4 (some .int) 1 := ⟨q_1372, q_37, q_71, q_1373, by decide +kernel, by decide +kernel, by decide +kernel⟩
theorem mv_X12_check : MV yX12_check cX12_check 7 (some .long) 3 := ⟨q_1367, q_1368, q_71, q_1369, by decide +kernel, by decide +kernel, by decide +kernel⟩
theorem mv_X12_againAt : MV yX12_againAt cX12_againAt 10 (some .long) 1 := ⟨q_1382, q_38, q_71, q_1383, by decide +kernel, by decide +kernel, by decide +kernel⟩
theorem mv_X12_again : MV yX12_again cX12_again 11 (some .long) 2 := ⟨q_1375, q_1376, q_71, q_1377, by decide +kernel, by decide +kernel, by decide +kernel⟩
theorem mv_X12_rightBy : MV yX12_rightBy cX12_rightBy 9 (some .long) 2 := ⟨q_1395, q_40, q_71, q_1396, by decide +kernel, by decide +kernel, by decide +kernel⟩
theorem mv_X12_timeBy : MV yX12_timeBy cX12_timeBy 5 (some .int) 2 := ⟨q_1409, q_41, q_71, q_1410, by decide +kernel, by decide +kernel, by decide +kernel⟩
theorem mv_X12_isSet : MV yX12_isSet cX12_isSet 3 (some .boolean) 2 := ⟨q_1391, q_39, q_71, q_1392, by decide +kernel, by decide +kernel, by decide +kernel⟩
theorem mv_X12_right : MV yX12_right cX12_right 4 (some .long) 3 := ⟨q_1386, q_1387, q_71, q_1388, by decide +kernel, by decide +kernel, by decide +kernel⟩
theorem mv_X12_time : MV yX12_time cX12_time 3 (some .int) 2 := ⟨q_1404, q_1405, q_71, q_1406, by decide +kernel, by decide +kernel, by decide +kernel⟩
theorem mv_X12_leastSaid : MV yX12_leastSaid cX12_leastSaid 5 (some .int) 2 := ⟨q_1412, q_1413, q_71, q_1414, by decide +kernel, by decide +kernel, by decide +kernel⟩
theorem mv_X12_worst : MV yX12_worst cX12_worst 4 (some .int) 1 := ⟨q_1416, q_1417, q_71, q_1418, by decide +kernel, by decide +kernel, by decide +kernel⟩
theorem mv_X12_areTwo : MV yX12_areTwo cX12_areTwo 3 (some .boolean) 2 := ⟨q_1425, q_42, q_71, q_1426, by decide +kernel, by decide +kernel, by decide +kernel⟩
theorem mv_X12_heardAs : MV yX12_heardAs cX12_heardAs 6 (some .long) 2 := ⟨q_1429, q_43, q_71, q_1430, by decide +kernel, by decide +kernel, by decide +kernel⟩
theorem mv_X12_confused : MV yX12_confused cX12_confused 3 (some .long) 2 := ⟨q_1420, q_1421, q_71, q_1422, by decide +kernel, by decide +kernel, by decide +kernel⟩
theorem mv_X12_nearest : MV yX12_nearest cX12_nearest 8 (some .int) 1 := ⟨q_1432, q_1433, q_71, q_1434, by decide +kernel, by decide +kernel, by decide +kernel⟩
theorem mv_X12_pairs : MV yX12_pairs cX12_pairs 8 (some .int) 0 := ⟨q_1436, q_1437, q_71, q_1438, by decide +kernel, by decide +kernel, by decide +kernel⟩
theorem mv_X12_figuresOf : MV yX12_figuresOf cX12_figuresOf 3 (some .int) 1 := ⟨q_1446, q_44, q_71, q_1447, by decide +kernel, by decide +kernel, by decide +kernel⟩
theorem mv_X12_sums : MV yX12_sums cX12_sums 9 (some .long) 3 := ⟨q_1440, q_1441, q_71, q_1442, by decide +kernel, by decide +kernel, by decide +kernel⟩
theorem mv_X12_stop : MV yX12_stop cX12_stop 6 (some .int) 2 := ⟨q_1449, q_1450, q_71, q_1451, by decide +kernel, by decide +kernel, by decide +kernel⟩
theorem mv_X12_misfit : MV yX12_misfit cX12_misfit 5 (some .int) 2 := ⟨q_1459, q_45, q_71, q_1460, by decide +kernel, by decide +kernel, by decide +kernel⟩
theorem mv_X12_who : MV yX12_who cX12_who 4 (some .int) 1 := ⟨q_1454, q_1455, q_71, q_1456, by decide +kernel, by decide +kernel, by decide +kernel⟩
theorem mv_X12_odd : MV yX12_odd cX12_odd 5 (some .int) 1 := ⟨q_1462, q_1463, q_71, q_1464, by decide +kernel, by decide +kernel, by decide +kernel⟩
theorem dX12_sure_0 : decode cX12_sure 0 = .ok (.aload_n 0, 1) := by decide +kernel
theorem dX12_sure_1 : decode cX12_sure 1 = .ok (.iload_n 1, 1) := by decide +kernel
theorem dX12_sure_2 : decode cX12_sure 2 = .ok (.invokevirtual 104, 3) := by decide +kernel
theorem dX12_sure_5 : decode cX12_sure 5 = .ok (.iconst (-1), 1) := by decide +kernel
theorem dX12_sure_6 : decode cX12_sure 6 = .ok (.if_icmp .eq 15, 3) := by decide +kernel
theorem dX12_sure_9 : decode cX12_sure 9 = .ok (.iload_n 2, 1) := by decide +kernel
theorem dX12_sure_10 : decode cX12_sure 10 = .ok (.i2l, 1) := by decide +kernel
theorem dX12_sure_11 : decode cX12_sure 11 = .ok (.lconst 0, 1) := by decide +kernel
theorem dX12_sure_12 : decode cX12_sure 12 = .ok (.ldc2_w 89, 3) := by decide +kernel
theorem dX12_sure_15 : decode cX12_sure 15 = .ok (.invokestatic 91, 3) := by decide +kernel
theorem dX12_sure_18 : decode cX12_sure 18 = .ok (.ifCond .ne 5, 3) := by decide +kernel
theorem dX12_sure_21 : decode cX12_sure 21 = .ok (.iconst (-1), 1) := by decide +kernel
theorem dX12_sure_22 : decode cX12_sure 22 = .ok (.ireturn, 1) := by decide +kernel
theorem dX12_sure_23 : decode cX12_sure 23 = .ok (.aload_n 0, 1) := by decide +kernel
theorem dX12_sure_24 : decode cX12_sure 24 = .ok (.iload_n 1, 1) := by decide +kernel
theorem dX12_sure_25 : decode cX12_sure 25 = .ok (.invokevirtual 104, 3) := by decide +kernel
theorem dX12_sure_28 : decode cX12_sure 28 = .ok (.ifCond .ge 9, 3) := by decide +kernel
theorem dX12_sure_31 : decode cX12_sure 31 = .ok (.aload_n 0, 1) := by decide +kernel
theorem dX12_sure_32 : decode cX12_sure 32 = .ok (.iload_n 1, 1) := by decide +kernel
theorem dX12_sure_33 : decode cX12_sure 33 = .ok (.invokevirtual 104, 3) := by decide +kernel
theorem dX12_sure_36 : decode cX12_sure 36 = .ok (.ireturn, 1) := by decide +kernel
theorem dX12_sure_37 : decode cX12_sure 37 = .ok (.aload_n 0, 1) := by decide +kernel
theorem dX12_sure_38 : decode cX12_sure 38 = .ok (.iload_n 1, 1) := by decide +kernel
theorem dX12_sure_39 : decode cX12_sure 39 = .ok (.invokevirtual 213, 3) := by decide +kernel
theorem dX12_sure_42 : decode cX12_sure 42 = .ok (.lstore_n 3, 1) := by decide +kernel
theorem dX12_sure_43 : decode cX12_sure 43 = .ok (.lload_n 3, 1) := by decide +kernel
theorem dX12_sure_44 : decode cX12_sure 44 = .ok (.lconst 0, 1) := by decide +kernel
theorem dX12_sure_45 : decode cX12_sure 45 = .ok (.lcmp, 1) := by decide +kernel
theorem dX12_sure_46 : decode cX12_sure 46 = .ok (.ifCond .ne 8, 3) := by decide +kernel
theorem dX12_sure_49 : decode cX12_sure 49 = .ok (.bipush (-2), 2) := by decide +kernel
theorem dX12_sure_51 : decode cX12_sure 51 = .ok (.goto 29, 3) := by decide +kernel
theorem dX12_sure_54 : decode cX12_sure 54 = .ok (.ldc2_w 129, 3) := by decide +kernel
theorem dX12_sure_57 : decode cX12_sure 57 = .ok (.aload_n 0, 1) := by decide +kernel
theorem dX12_sure_58 : decode cX12_sure 58 = .ok (.getfield 42, 3) := by decide +kernel
theorem dX12_sure_61 : decode cX12_sure 61 = .ok (.aload_n 0, 1) := by decide +kernel
theorem dX12_sure_62 : decode cX12_sure 62 = .ok (.invokevirtual 219, 3) := by decide +kernel
theorem dX12_sure_65 : decode cX12_sure 65 = .ok (.laload, 1) := by decide +kernel
theorem dX12_sure_66 : decode cX12_sure 66 = .ok (.lmul, 1) := by decide +kernel
theorem dX12_sure_67 : decode cX12_sure 67 = .ok (.iload_n 2, 1) := by decide +kernel
theorem dX12_sure_68 : decode cX12_sure 68 = .ok (.i2l, 1) := by decide +kernel
theorem dX12_sure_69 : decode cX12_sure 69 = .ok (.lload_n 3, 1) := by decide +kernel
theorem dX12_sure_70 : decode cX12_sure 70 = .ok (.lmul, 1) := by decide +kernel
theorem dX12_sure_71 : decode cX12_sure 71 = .ok (.lcmp, 1) := by decide +kernel
theorem dX12_sure_72 : decode cX12_sure 72 = .ok (.ifCond .le 7, 3) := by decide +kernel
theorem dX12_sure_75 : decode cX12_sure 75 = .ok (.iconst 1, 1) := by decide +kernel
theorem dX12_sure_76 : decode cX12_sure 76 = .ok (.goto 4, 3) := by decide +kernel
theorem dX12_sure_79 : decode cX12_sure 79 = .ok (.iconst 0, 1) := by decide +kernel
theorem dX12_sure_80 : decode cX12_sure 80 = .ok (.ireturn, 1) := by decide +kernel
def f_X12_sure (σ : St) (p1 : Int32) (p2 : Int32) : Option (Int32 × St) := bnd2 (f_X12_bytesIs σ p1) (fun r2 σ3 => if r2 = (-1 : Int32) then (some ((-1 : Int32), σ3)) else (bnd1 (f_X12_within ((p2 : Int32).toInt64) (0 : Int64) (11 : Int64)) (fun r6 => if r6 = 0 then (some ((-1 : Int32), σ3)) else (bnd2 (f_X12_bytesIs σ3 p1) (fun r9 σ10 => if 0 ≤ r9 then (bnd2 (f_X12_asksProducts σ10 p1) (fun r13 σ14 => if r13 = (0 : Int64) then (some ((-2 : Int32), σ14)) else (bnd2 (f_X12_likeliestNow σ14) (fun r17 σ18 => chk (r17 < 0 ∨ 10 ≤ r17.toNatClampNeg) (if (12 : Int64) * (σ18.2.2.2.1 620 0 r17.toNatClampNeg) ≤ ((p2 : Int32).toInt64) * r13 then (some ((0 : Int32), σ18)) else (some ((1 : Int32), σ18))))))) else (bnd2 (f_X12_bytesIs σ10 p1) (fun r22 σ23 => some (r22, σ23))))))))
set_option maxHeartbeats 4000000 in
set_option maxRecDepth 100000 in
theorem c_X12_sure {l : Launch} {g : va_G} {ts : ClassId × ClassId × ClassId} {a : Nat → Nat} {σ : St} {p1 : Int32} {p2 : Int32} {r : Int32} {σ' : St} (hf : f_X12_sure σ p1 p2 = some (r, σ')) : ConI l g ts (WM ts a) yX12_sure cX12_sure 5 (some .int) (rk 103 2231) σ [.ref (a 0), .int p1, .int p2] r σ' := by
  refine ConI_mk .int rfl rfl rfl rfl (by decide) (Nat.le_of_ble_eq_true rfl) ?_
  intro p e s m below meth c A Q ls C hQ hP hD hS hl
  have C : FX p s m _ meth c RX12 cX12_sure 5 g ts A := C
  have hx := C.1
  have hb := C.2.1
  have hown := C.2.2.2.1
  have hts := C.2.2.2.2.1
  have hl : lv_has ls 5 [(0, .ref (a 0)), (1, .int p1), (2, .int p2)] := hl
  rw [f_X12_sure] at hf
  refine lv_aload_n hx hb dX12_sure_0 rfl (lv_at hl 0 rfl) ?_
  refine lv_iload_n hx hb dX12_sure_1 rfl (lv_at hl 1 rfl) ?_
  obtain ⟨r2, σ3, h1, hf⟩ := bnd2_some hf
  refine vI [] C hP hD hS (c_X12_bytesIs h1) mv_X12_bytesIs q_1222 rv_X12 dX12_sure_2 ⟨Nat.le_of_ble_eq_true rfl, Nat.le_of_ble_eq_true rfl⟩ ⟨Nat.zero_le _, Nat.zero_le _⟩ rfl rfl (Nat.le_of_ble_eq_true rfl) hl.1 (fun H locs hP hD hS => ?_)
  refine lv_iconst (v := -1) hx hb dX12_sure_5 (by decide) ?_
  refine lv_icmp_eq (tgt := 21) hx hb dX12_sure_6 (by decide) (fun c4 => ?_) (fun c4 => ?_)
  · replace hf := ipos c4 hf
    refine lv_iconst (v := -1) hx hb dX12_sure_21 (by decide) ?_
    exact retI hQ hf dX12_sure_22 hP hD hS
  · replace hf := ineg c4 hf
    refine lv_iload_n hx hb dX12_sure_9 rfl (lv_at hl 2 rfl) ?_
    refine lv_i2l (v := (p2 : Int32).toInt64) hx hb dX12_sure_10 rfl ?_
    refine lv_lconst (v := 0) hx hb dX12_sure_11 (by decide) ?_
    refine lv_ldc2 hx hb hown (hts _ q_1233) dX12_sure_12 ?_
    obtain ⟨r6, h5, hf⟩ := bnd1_some hf
    refine tI [] C hP hD hS (c_X12_within h5) ms_X12_within q_1218 dX12_sure_15 ⟨Nat.le_of_ble_eq_true rfl, Nat.le_of_ble_eq_true rfl⟩ ⟨Nat.zero_le _, Nat.zero_le _⟩ rfl rfl (Nat.le_of_ble_eq_true rfl) hl.1 (fun H locs hP hD hS => ?_)
    refine lv_if_ne (tgt := 23) hx hb dX12_sure_18 (by decide) (fun c7 => ?_) (fun c7 => ?_)
    · replace hf := ineg c7 hf
      refine lv_aload_n hx hb dX12_sure_23 rfl (lv_at hl 0 rfl) ?_
      refine lv_iload_n hx hb dX12_sure_24 rfl (lv_at hl 1 rfl) ?_
      obtain ⟨r9, σ10, h8, hf⟩ := bnd2_some hf
      refine vI [] C hP hD hS (c_X12_bytesIs h8) mv_X12_bytesIs q_1222 rv_X12 dX12_sure_25 ⟨Nat.le_of_ble_eq_true rfl, Nat.le_of_ble_eq_true rfl⟩ ⟨Nat.zero_le _, Nat.zero_le _⟩ rfl rfl (Nat.le_of_ble_eq_true rfl) hl.1 (fun H locs hP hD hS => ?_)
      refine lv_if_ge (tgt := 37) hx hb dX12_sure_28 (by decide) (fun c11 => ?_) (fun c11 => ?_)
      · replace hf := ipos c11 hf
        refine lv_aload_n hx hb dX12_sure_37 rfl (lv_at hl 0 rfl) ?_
        refine lv_iload_n hx hb dX12_sure_38 rfl (lv_at hl 1 rfl) ?_
        obtain ⟨r13, σ14, h12, hf⟩ := bnd2_some hf
        refine vL [] C hP hD hS (c_X12_asksProducts h12) mv_X12_asksProducts q_1341 rv_X12 dX12_sure_39 ⟨Nat.le_of_ble_eq_true rfl, Nat.le_of_ble_eq_true rfl⟩ ⟨Nat.zero_le _, Nat.zero_le _⟩ rfl rfl (Nat.le_of_ble_eq_true rfl) hl.1 (fun H locs hP hD hS => ?_)
        refine lv_lstore_n (lv' := [(3, .long r13), (0, .ref (a 0)), (1, .int p1), (2, .int p2)]) hx hb dX12_sure_42 rfl hl (by decide) rfl (fun ls hl => ?_)
        refine lv_lload_n hx hb dX12_sure_43 rfl (lv_at hl 0 rfl) ?_
        refine lv_lconst (v := 0) hx hb dX12_sure_44 (by decide) ?_
        refine lb_ne (tgt := 54) hx hb dX12_sure_45 dX12_sure_46 (by decide) (fun c15 => ?_) (fun c15 => ?_)
        · replace hf := ineg c15 hf
          refine lv_ldc2 hx hb hown (hts _ q_1252) dX12_sure_54 ?_
          refine lv_aload_n hx hb dX12_sure_57 rfl (lv_at hl 1 rfl) ?_
          refine G_X12_products C hP q_1092 dX12_sure_58 ?_
          refine lv_aload_n hx hb dX12_sure_61 rfl (lv_at hl 1 rfl) ?_
          obtain ⟨r17, σ18, h16, hf⟩ := bnd2_some hf
          refine vI [.ref (a 11), .long (12 : Int64)] C hP hD hS (c_X12_likeliestNow h16) mv_X12_likeliestNow q_1358 rv_X12 dX12_sure_62 ⟨Nat.le_of_ble_eq_true rfl, Nat.le_of_ble_eq_true rfl⟩ ⟨Nat.zero_le _, Nat.zero_le _⟩ rfl rfl (Nat.le_of_ble_eq_true rfl) hl.1 (fun H locs hP hD hS => ?_)
          obtain ⟨h19, hf⟩ := chk_some hf
          refine AL_X12_products C hP h19 dX12_sure_65 ?_
          refine lv_lmul hx hb dX12_sure_66 ?_
          refine lv_iload_n hx hb dX12_sure_67 rfl (lv_at hl 3 rfl) ?_
          refine lv_i2l (v := (p2 : Int32).toInt64) hx hb dX12_sure_68 rfl ?_
          refine lv_lload_n hx hb dX12_sure_69 rfl (lv_at hl 0 rfl) ?_
          refine lv_lmul hx hb dX12_sure_70 ?_
          refine lb_le (tgt := 79) hx hb dX12_sure_71 dX12_sure_72 (by decide) (fun c20 => ?_) (fun c20 => ?_)
          · replace hf := ipos c20 hf
            refine lv_iconst (v := 0) hx hb dX12_sure_79 (by decide) ?_
            exact retI hQ hf dX12_sure_80 hP hD hS
          · replace hf := ineg c20 hf
            refine lv_iconst (v := 1) hx hb dX12_sure_75 (by decide) ?_
            refine lv_goto (tgt := 80) hx hb dX12_sure_76 (by decide) ?_
            exact retI hQ hf dX12_sure_80 hP hD hS
        · replace hf := ipos c15 hf
          refine lv_bipush (v := -2) hx hb dX12_sure_49 (by decide) ?_
          refine lv_goto (tgt := 80) hx hb dX12_sure_51 (by decide) ?_
          exact retI hQ hf dX12_sure_80 hP hD hS
      · replace hf := ineg c11 hf
        refine lv_aload_n hx hb dX12_sure_31 rfl (lv_at hl 0 rfl) ?_
        refine lv_iload_n hx hb dX12_sure_32 rfl (lv_at hl 1 rfl) ?_
        obtain ⟨r22, σ23, h21, hf⟩ := bnd2_some hf
        refine vI [] C hP hD hS (c_X12_bytesIs h21) mv_X12_bytesIs q_1222 rv_X12 dX12_sure_33 ⟨Nat.le_of_ble_eq_true rfl, Nat.le_of_ble_eq_true rfl⟩ ⟨Nat.zero_le _, Nat.zero_le _⟩ rfl rfl (Nat.le_of_ble_eq_true rfl) hl.1 (fun H locs hP hD hS => ?_)
        exact retI hQ hf dX12_sure_36 hP hD hS
    · replace hf := ipos c7 hf
      refine lv_iconst (v := -1) hx hb dX12_sure_21 (by decide) ?_
      exact retI hQ hf dX12_sure_22 hP hD hS
theorem dX12_sumOf_0 : decode cX12_sumOf 0 = .ok (.iconst 0, 1) := by decide +kernel
theorem dX12_sumOf_1 : decode cX12_sumOf 1 = .ok (.istore_n 2, 1) := by decide +kernel
theorem dX12_sumOf_2 : decode cX12_sumOf 2 = .ok (.iconst 0, 1) := by decide +kernel
theorem dX12_sumOf_3 : decode cX12_sumOf 3 = .ok (.istore_n 3, 1) := by decide +kernel
theorem dX12_sumOf_4 : decode cX12_sumOf 4 = .ok (.iload_n 3, 1) := by decide +kernel
theorem dX12_sumOf_5 : decode cX12_sumOf 5 = .ok (.aload_n 0, 1) := by decide +kernel
theorem dX12_sumOf_6 : decode cX12_sumOf 6 = .ok (.getfield 24, 3) := by decide +kernel
theorem dX12_sumOf_9 : decode cX12_sumOf 9 = .ok (.iload_n 1, 1) := by decide +kernel
theorem dX12_sumOf_10 : decode cX12_sumOf 10 = .ok (.iaload, 1) := by decide +kernel
theorem dX12_sumOf_11 : decode cX12_sumOf 11 = .ok (.if_icmp .ge 18, 3) := by decide +kernel
theorem dX12_sumOf_14 : decode cX12_sumOf 14 = .ok (.iload_n 2, 1) := by decide +kernel
theorem dX12_sumOf_15 : decode cX12_sumOf 15 = .ok (.aload_n 0, 1) := by decide +kernel
theorem dX12_sumOf_16 : decode cX12_sumOf 16 = .ok (.iload_n 1, 1) := by decide +kernel
theorem dX12_sumOf_17 : decode cX12_sumOf 17 = .ok (.iload_n 3, 1) := by decide +kernel
theorem dX12_sumOf_18 : decode cX12_sumOf 18 = .ok (.invokevirtual 136, 3) := by decide +kernel
theorem dX12_sumOf_21 : decode cX12_sumOf 21 = .ok (.iadd, 1) := by decide +kernel
theorem dX12_sumOf_22 : decode cX12_sumOf 22 = .ok (.istore_n 2, 1) := by decide +kernel
theorem dX12_sumOf_23 : decode cX12_sumOf 23 = .ok (.iinc 3 1, 3) := by decide +kernel
theorem dX12_sumOf_26 : decode cX12_sumOf 26 = .ok (.goto (-22), 3) := by decide +kernel
theorem dX12_sumOf_29 : decode cX12_sumOf 29 = .ok (.iload_n 2, 1) := by decide +kernel
theorem dX12_sumOf_30 : decode cX12_sumOf 30 = .ok (.bipush 12, 2) := by decide +kernel
theorem dX12_sumOf_32 : decode cX12_sumOf 32 = .ok (.irem, 1) := by decide +kernel
theorem dX12_sumOf_33 : decode cX12_sumOf 33 = .ok (.ireturn, 1) := by decide +kernel
def f_X12_sumOf_b4 : Nat → St → Int32 → Int32 → Int32 → Option (Int32 × St)
  | 0, _, _, _, _ => none
  | n + 1, σ, x1, x2, x3 => chk (x1 < 0 ∨ 10 ≤ x1.toNatClampNeg) (if σ.2.2.1 607 0 x1.toNatClampNeg ≤ x3 then (some (x2 - x2 / (12 : Int32) * (12 : Int32), σ)) else (bnd2 (f_X12_at1 σ x1 x3) (fun r4 σ5 => bnd (x2 + r4) (fun v6 => bnd (x3 + 1) (fun v7 => f_X12_sumOf_b4 n σ5 x1 v6 v7)))))
def f_X12_sumOf (σ : St) (p1 : Int32) : Option (Int32 × St) := f_X12_sumOf_b4 256 σ p1 (0 : Int32) (0 : Int32)
set_option maxHeartbeats 4000000 in
set_option maxRecDepth 100000 in
theorem w_X12_sumOf_b4 {p : Program} {l : Launch} {e : Env} {s : State} {m : MethodId} {args : Array Value} {below : List Frame} {meth : Method} {c : Code} {g : va_G} {ts : ClassId × ClassId × ClassId} {A : Nat → Prop} {Q : State → Prop} {a : Nat → Nat} {r : Int32} {σ' : St} (C : FX p s m args meth c RX12 cX12_sumOf 4 g ts A) (hQ : RetI p l e (rk 1 22) s m args below meth c cX12_sumOf g (WM ts a) A r σ' Q) : ∀ (n : Nat) (σ : St) (x1 : Int32) (x2 : Int32) (x3 : Int32) (H : Heap) (locs : List Loc) (ls : Array Slot), f_X12_sumOf_b4 n σ x1 x2 x3 = some (r, σ') → va_P g classes (WM ts a σ) H → va_D A (WM ts a σ) → va_S A s.heap H locs → lv_has ls 4 [(0, .ref (a 0)), (1, .int x1), (2, .int x2), (3, .int x3)] → W p l e (rk 1 22) s m args below meth c H locs 0 0 Q (F0 m 4 ls []) := by
  have hx := C.1
  have hb := C.2.1
  have hown := C.2.2.2.1
  have hts := C.2.2.2.2.1
  intro n
  induction n with
  | zero =>
    intro σ x1 x2 x3 H locs ls hf
    cases hf
  | succ n ih =>
    intro σ x1 x2 x3 H locs ls hf hP hD hS hl
    rw [f_X12_sumOf_b4] at hf
    refine lv_iload_n hx hb dX12_sumOf_4 rfl (lv_at hl 3 rfl) ?_
    refine lv_aload_n hx hb dX12_sumOf_5 rfl (lv_at hl 0 rfl) ?_
    refine G_X12_longs C hP q_1079 dX12_sumOf_6 ?_
    refine lv_iload_n hx hb dX12_sumOf_9 rfl (lv_at hl 1 rfl) ?_
    obtain ⟨h1, hf⟩ := chk_some hf
    refine AL_X12_longs C hP h1 dX12_sumOf_10 ?_
    refine lv_icmp_ge (tgt := 29) hx hb dX12_sumOf_11 (by decide) (fun c2 => ?_) (fun c2 => ?_)
    · replace hf := ipos c2 hf
      refine lv_iload_n hx hb dX12_sumOf_29 rfl (lv_at hl 2 rfl) ?_
      refine lv_bipush (v := 12) hx hb dX12_sumOf_30 (by decide) ?_
      refine lv_irem hx hb dX12_sumOf_32 (by decide) ?_
      exact retI hQ hf dX12_sumOf_33 hP hD hS
    · replace hf := ineg c2 hf
      refine lv_iload_n hx hb dX12_sumOf_14 rfl (lv_at hl 2 rfl) ?_
      refine lv_aload_n hx hb dX12_sumOf_15 rfl (lv_at hl 0 rfl) ?_
      refine lv_iload_n hx hb dX12_sumOf_16 rfl (lv_at hl 1 rfl) ?_
      refine lv_iload_n hx hb dX12_sumOf_17 rfl (lv_at hl 3 rfl) ?_
      obtain ⟨r4, σ5, h3, hf⟩ := bnd2_some hf
      refine vI [.int x2] C hP hD hS (c_X12_at1 h3) mv_X12_at1 q_1266 rv_X12 dX12_sumOf_18 ⟨Nat.le_of_ble_eq_true rfl, Nat.le_of_ble_eq_true rfl⟩ ⟨Nat.zero_le _, Nat.zero_le _⟩ rfl rfl (Nat.le_of_ble_eq_true rfl) hl.1 (fun H locs hP hD hS => ?_)
      refine lv_iadd hx hb dX12_sumOf_21 ?_
      refine lv_topi (fun v6 ev6 => ?_)
      replace hf := bnd_at ev6 hf
      refine lv_istore_n (lv' := [(2, .int v6), (0, .ref (a 0)), (1, .int x1), (3, .int x3)]) hx hb dX12_sumOf_22 rfl hl (by decide) rfl (fun ls hl => ?_)
      obtain ⟨v7, ev7⟩ : ∃ z : Int32, z = x3 + 1 := ⟨_, rfl⟩
      replace hf := bnd_at ev7 hf
      refine lv_iinc (v := v7) (lv' := [(3, .int v7), (2, .int v6), (0, .ref (a 0)), (1, .int x1)]) hx hb dX12_sumOf_23 hl (k := 3) rfl (by rw [ev7]; rfl) (by decide) rfl (fun ls hl => ?_)
      refine lv_goto (tgt := 4) hx hb dX12_sumOf_26 (by decide) ?_
      exact ih _ _ _ _ _ _ _ hf hP hD hS (lv_sub hl [2, 3, 1, 0] rfl)
set_option maxHeartbeats 4000000 in
set_option maxRecDepth 100000 in
theorem c_X12_sumOf {l : Launch} {g : va_G} {ts : ClassId × ClassId × ClassId} {a : Nat → Nat} {σ : St} {p1 : Int32} {r : Int32} {σ' : St} (hf : f_X12_sumOf σ p1 = some (r, σ')) : ConI l g ts (WM ts a) yX12_sumOf cX12_sumOf 4 (some .int) (rk 1 22) σ [.ref (a 0), .int p1] r σ' := by
  refine ConI_mk .int rfl rfl rfl rfl (by decide) (Nat.le_of_ble_eq_true rfl) ?_
  intro p e s m below meth c A Q ls C hQ hP hD hS hl
  have C : FX p s m _ meth c RX12 cX12_sumOf 4 g ts A := C
  have hx := C.1
  have hb := C.2.1
  have hown := C.2.2.2.1
  have hts := C.2.2.2.2.1
  have hl : lv_has ls 4 [(0, .ref (a 0)), (1, .int p1)] := hl
  rw [f_X12_sumOf] at hf
  refine lv_iconst (v := 0) hx hb dX12_sumOf_0 (by decide) ?_
  refine lv_istore_n (lv' := [(2, .int (0 : Int32)), (0, .ref (a 0)), (1, .int p1)]) hx hb dX12_sumOf_1 rfl hl (by decide) rfl (fun ls hl => ?_)
  refine lv_iconst (v := 0) hx hb dX12_sumOf_2 (by decide) ?_
  refine lv_istore_n (lv' := [(3, .int (0 : Int32)), (2, .int (0 : Int32)), (0, .ref (a 0)), (1, .int p1)]) hx hb dX12_sumOf_3 rfl hl (by decide) rfl (fun ls hl => ?_)
  exact w_X12_sumOf_b4 C hQ 256 _ _ _ _ _ _ _ hf hP hD hS (lv_sub hl [2, 3, 1, 0] rfl)
theorem dX12_check_0 : decode cX12_check 0 = .ok (.aload_n 0, 1) := by decide +kernel
theorem dX12_check_1 : decode cX12_check 1 = .ok (.iload_n 1, 1) := by decide +kernel
theorem dX12_check_2 : decode cX12_check 2 = .ok (.invokevirtual 104, 3) := by decide +kernel
theorem dX12_check_5 : decode cX12_check 5 = .ok (.iconst 1, 1) := by decide +kernel
theorem dX12_check_6 : decode cX12_check 6 = .ok (.if_icmp .ne 37, 3) := by decide +kernel
theorem dX12_check_9 : decode cX12_check 9 = .ok (.iload_n 2, 1) := by decide +kernel
theorem dX12_check_10 : decode cX12_check 10 = .ok (.ifCond .lt 33, 3) := by decide +kernel
theorem dX12_check_13 : decode cX12_check 13 = .ok (.aload_n 0, 1) := by decide +kernel
theorem dX12_check_14 : decode cX12_check 14 = .ok (.iload_n 2, 1) := by decide +kernel
theorem dX12_check_15 : decode cX12_check 15 = .ok (.bipush 100, 2) := by decide +kernel
theorem dX12_check_17 : decode cX12_check 17 = .ok (.idiv, 1) := by decide +kernel
theorem dX12_check_18 : decode cX12_check 18 = .ok (.invokevirtual 116, 3) := by decide +kernel
theorem dX12_check_21 : decode cX12_check 21 = .ok (.ifCond .eq 22, 3) := by decide +kernel
theorem dX12_check_24 : decode cX12_check 24 = .ok (.iload_n 2, 1) := by decide +kernel
theorem dX12_check_25 : decode cX12_check 25 = .ok (.bipush 100, 2) := by decide +kernel
theorem dX12_check_27 : decode cX12_check 27 = .ok (.irem, 1) := by decide +kernel
theorem dX12_check_28 : decode cX12_check 28 = .ok (.bipush 11, 2) := by decide +kernel
theorem dX12_check_30 : decode cX12_check 30 = .ok (.if_icmp .gt 13, 3) := by decide +kernel
theorem dX12_check_33 : decode cX12_check 33 = .ok (.iload_n 3, 1) := by decide +kernel
theorem dX12_check_34 : decode cX12_check 34 = .ok (.i2l, 1) := by decide +kernel
theorem dX12_check_35 : decode cX12_check 35 = .ok (.lconst 0, 1) := by decide +kernel
theorem dX12_check_36 : decode cX12_check 36 = .ok (.lconst 1, 1) := by decide +kernel
theorem dX12_check_37 : decode cX12_check 37 = .ok (.invokestatic 91, 3) := by decide +kernel
theorem dX12_check_40 : decode cX12_check 40 = .ok (.ifCond .ne 7, 3) := by decide +kernel
theorem dX12_check_43 : decode cX12_check 43 = .ok (.ldc2_w 200, 3) := by decide +kernel
theorem dX12_check_46 : decode cX12_check 46 = .ok (.lreturn, 1) := by decide +kernel
theorem dX12_check_47 : decode cX12_check 47 = .ok (.aload_n 0, 1) := by decide +kernel
theorem dX12_check_48 : decode cX12_check 48 = .ok (.iload_n 1, 1) := by decide +kernel
theorem dX12_check_49 : decode cX12_check 49 = .ok (.invokevirtual 213, 3) := by decide +kernel
theorem dX12_check_52 : decode cX12_check 52 = .ok (.pop2, 1) := by decide +kernel
theorem dX12_check_53 : decode cX12_check 53 = .ok (.lconst 0, 1) := by decide +kernel
theorem dX12_check_54 : decode cX12_check 54 = .ok (.lstore 4, 2) := by decide +kernel
theorem dX12_check_56 : decode cX12_check 56 = .ok (.iconst 0, 1) := by decide +kernel
theorem dX12_check_57 : decode cX12_check 57 = .ok (.istore 6, 2) := by decide +kernel
theorem dX12_check_59 : decode cX12_check 59 = .ok (.iload 6, 2) := by decide +kernel
theorem dX12_check_61 : decode cX12_check 61 = .ok (.aload_n 0, 1) := by decide +kernel
theorem dX12_check_62 : decode cX12_check 62 = .ok (.getfield 95, 3) := by decide +kernel
theorem dX12_check_65 : decode cX12_check 65 = .ok (.if_icmp .ge 52, 3) := by decide +kernel
theorem dX12_check_68 : decode cX12_check 68 = .ok (.aload_n 0, 1) := by decide +kernel
theorem dX12_check_69 : decode cX12_check 69 = .ok (.getfield 42, 3) := by decide +kernel
theorem dX12_check_72 : decode cX12_check 72 = .ok (.iload 6, 2) := by decide +kernel
theorem dX12_check_74 : decode cX12_check 74 = .ok (.aload_n 0, 1) := by decide +kernel
theorem dX12_check_75 : decode cX12_check 75 = .ok (.iload 6, 2) := by decide +kernel
theorem dX12_check_77 : decode cX12_check 77 = .ok (.invokevirtual 222, 3) := by decide +kernel
theorem dX12_check_80 : decode cX12_check 80 = .ok (.iload_n 2, 1) := by decide +kernel
theorem dX12_check_81 : decode cX12_check 81 = .ok (.bipush 100, 2) := by decide +kernel
theorem dX12_check_83 : decode cX12_check 83 = .ok (.irem, 1) := by decide +kernel
theorem dX12_check_84 : decode cX12_check 84 = .ok (.if_icmp .ne 13, 3) := by decide +kernel
theorem dX12_check_87 : decode cX12_check 87 = .ok (.aload_n 0, 1) := by decide +kernel
theorem dX12_check_88 : decode cX12_check 88 = .ok (.getfield 42, 3) := by decide +kernel
theorem dX12_check_91 : decode cX12_check 91 = .ok (.iload 6, 2) := by decide +kernel
theorem dX12_check_93 : decode cX12_check 93 = .ok (.laload, 1) := by decide +kernel
theorem dX12_check_94 : decode cX12_check 94 = .ok (.goto 4, 3) := by decide +kernel
theorem dX12_check_97 : decode cX12_check 97 = .ok (.lconst 0, 1) := by decide +kernel
theorem dX12_check_98 : decode cX12_check 98 = .ok (.lastore, 1) := by decide +kernel
theorem dX12_check_99 : decode cX12_check 99 = .ok (.lload 4, 2) := by decide +kernel
theorem dX12_check_101 : decode cX12_check 101 = .ok (.aload_n 0, 1) := by decide +kernel
theorem dX12_check_102 : decode cX12_check 102 = .ok (.getfield 42, 3) := by decide +kernel
theorem dX12_check_105 : decode cX12_check 105 = .ok (.iload 6, 2) := by decide +kernel
theorem dX12_check_107 : decode cX12_check 107 = .ok (.laload, 1) := by decide +kernel
theorem dX12_check_108 : decode cX12_check 108 = .ok (.ladd, 1) := by decide +kernel
theorem dX12_check_109 : decode cX12_check 109 = .ok (.lstore 4, 2) := by decide +kernel
theorem dX12_check_111 : decode cX12_check 111 = .ok (.iinc 6 1, 3) := by decide +kernel
theorem dX12_check_114 : decode cX12_check 114 = .ok (.goto (-55), 3) := by decide +kernel
theorem dX12_check_117 : decode cX12_check 117 = .ok (.lload 4, 2) := by decide +kernel
theorem dX12_check_119 : decode cX12_check 119 = .ok (.lconst 0, 1) := by decide +kernel
theorem dX12_check_120 : decode cX12_check 120 = .ok (.lcmp, 1) := by decide +kernel
theorem dX12_check_121 : decode cX12_check 121 = .ok (.ifCond .ne 9, 3) := by decide +kernel
theorem dX12_check_124 : decode cX12_check 124 = .ok (.ldc2_w 217, 3) := by decide +kernel
theorem dX12_check_127 : decode cX12_check 127 = .ok (.goto 18, 3) := by decide +kernel
theorem dX12_check_130 : decode cX12_check 130 = .ok (.aload_n 0, 1) := by decide +kernel
theorem dX12_check_131 : decode cX12_check 131 = .ok (.getfield 42, 3) := by decide +kernel
theorem dX12_check_134 : decode cX12_check 134 = .ok (.iload_n 2, 1) := by decide +kernel
theorem dX12_check_135 : decode cX12_check 135 = .ok (.bipush 100, 2) := by decide +kernel
theorem dX12_check_137 : decode cX12_check 137 = .ok (.idiv, 1) := by decide +kernel
theorem dX12_check_138 : decode cX12_check 138 = .ok (.laload, 1) := by decide +kernel
theorem dX12_check_139 : decode cX12_check 139 = .ok (.lload 4, 2) := by decide +kernel
theorem dX12_check_141 : decode cX12_check 141 = .ok (.iload_n 3, 1) := by decide +kernel
theorem dX12_check_142 : decode cX12_check 142 = .ok (.invokestatic 202, 3) := by decide +kernel
theorem dX12_check_145 : decode cX12_check 145 = .ok (.lreturn, 1) := by decide +kernel
def f_X12_check_b98 (k59 : St → Int32 → Int32 → Int64 → Int32 → Option (Int64 × St)) (σ : St) (x2 : Int32) (x3 : Int32) (x4 : Int64) (x6 : Int32) (s0 : Int64) (s1 : Int32) : Option (Int64 × St) := chk (s1 < 0 ∨ 10 ≤ s1.toNatClampNeg) (bnd (sL σ 620 0 (vp_updL (σ.2.2.2.1 620 0) s1.toNatClampNeg s0)) (fun σ28 => chk (x6 < 0 ∨ 10 ≤ x6.toNatClampNeg) (bnd (x4 + (σ28.2.2.2.1 620 0 x6.toNatClampNeg)) (fun v30 => bnd (x6 + 1) (fun v31 => k59 σ28 x2 x3 v30 v31)))))
def f_X12_check_b59 : Nat → St → Int32 → Int32 → Int64 → Int32 → Option (Int64 × St)
  | 0, _, _, _, _, _ => none
  | n + 1, σ, x2, x3, x4, x6 => if σ.1 606 0 ≤ x6 then (if x4 = (0 : Int64) then (some ((-2 : Int64), σ)) else (chk (x2 / (100 : Int32) < 0 ∨ 10 ≤ (x2 / (100 : Int32)).toNatClampNeg) (bnd1 (f_X12_partOf (σ.2.2.2.1 620 0 (x2 / (100 : Int32)).toNatClampNeg) x4 x3) (fun r21 => some (r21, σ))))) else (bnd2 (f_X12_sumOf σ x6) (fun r23 σ24 => if r23 = x2 - x2 / (100 : Int32) * (100 : Int32) then (chk (x6 < 0 ∨ 10 ≤ x6.toNatClampNeg) (f_X12_check_b98 (f_X12_check_b59 n) σ24 x2 x3 x4 x6 (σ24.2.2.2.1 620 0 x6.toNatClampNeg) x6)) else (f_X12_check_b98 (f_X12_check_b59 n) σ24 x2 x3 x4 x6 (0 : Int64) x6)))
def f_X12_check (σ : St) (p1 : Int32) (p2 : Int32) (p3 : Int32) : Option (Int64 × St) := bnd2 (f_X12_bytesIs σ p1) (fun r2 σ3 => if r2 = (1 : Int32) then (if p2 < 0 then (some ((-9223372036854775808 : Int64), σ3)) else (bnd2 (f_X12_isName σ3 (p2 / (100 : Int32))) (fun r7 σ8 => if r7 = 0 then (some ((-9223372036854775808 : Int64), σ8)) else (if (11 : Int32) < p2 - p2 / (100 : Int32) * (100 : Int32) then (some ((-9223372036854775808 : Int64), σ8)) else (bnd1 (f_X12_within ((p3 : Int32).toInt64) (0 : Int64) (1 : Int64)) (fun r12 => if r12 = 0 then (some ((-9223372036854775808 : Int64), σ8)) else (bnd2 (f_X12_asksProducts σ8 p1) (fun r15 σ16 => f_X12_check_b59 256 σ16 p2 p3 (0 : Int64) (0 : Int32))))))))) else (some ((-9223372036854775808 : Int64), σ3)))
set_option maxHeartbeats 4000000 in
set_option maxRecDepth 100000 in
theorem w_X12_check_b98 {p : Program} {l : Launch} {e : Env} {s : State} {m : MethodId} {args : Array Value} {below : List Frame} {meth : Method} {c : Code} {g : va_G} {ts : ClassId × ClassId × ClassId} {A : Nat → Prop} {Q : State → Prop} {a : Nat → Nat} {r : Int64} {σ' : St} {k59 : St → Int32 → Int32 → Int64 → Int32 → Option (Int64 × St)} (C : FX p s m args meth c RX12 cX12_check 7 g ts A) (hQ : RetL p l e (rk 103 2231) s m args below meth c cX12_check g (WM ts a) A r σ' Q) (hk59 : ∀ (σ : St) (x2 : Int32) (x3 : Int32) (x4 : Int64) (x6 : Int32) (H : Heap) (locs : List Loc) (ls : Array Slot), k59 σ x2 x3 x4 x6 = some (r, σ') → va_P g classes (WM ts a σ) H → va_D A (WM ts a σ) → va_S A s.heap H locs → lv_has ls 7 [(0, .ref (a 0)), (2, .int x2), (3, .int x3), (4, .long x4), (6, .int x6)] → W p l e (rk 103 2231) s m args below meth c H locs 0 0 Q (F0 m 59 ls [])) : ∀ (σ : St) (x2 : Int32) (x3 : Int32) (x4 : Int64) (x6 : Int32) (s0 : Int64) (s1 : Int32) (H : Heap) (locs : List Loc) (ls : Array Slot), f_X12_check_b98 k59 σ x2 x3 x4 x6 s0 s1 = some (r, σ') → va_P g classes (WM ts a σ) H → va_D A (WM ts a σ) → va_S A s.heap H locs → lv_has ls 7 [(0, .ref (a 0)), (2, .int x2), (3, .int x3), (4, .long x4), (6, .int x6)] → W p l e (rk 103 2231) s m args below meth c H locs 0 0 Q (F0 m 98 ls [.long s0, .int s1, .ref (a 11)]) := by
  have hx := C.1
  have hb := C.2.1
  have hown := C.2.2.2.1
  have hts := C.2.2.2.2.1
  intro σ x2 x3 x4 x6 s0 s1 H locs ls hf hP hD hS hl
  rw [f_X12_check_b98] at hf
  obtain ⟨h27, hf⟩ := chk_some hf
  refine AS_X12_products C hP hD hS h27 dX12_check_98 (fun H locs hP hD hS => ?_)
  refine nameS hP hD hf (fun σ28 hP hD hf => ?_)
  refine lv_lload hx hb dX12_check_99 (lv_at hl 3 rfl) ?_
  refine lv_aload_n hx hb dX12_check_101 rfl (lv_at hl 0 rfl) ?_
  refine G_X12_products C hP q_1092 dX12_check_102 ?_
  refine lv_iload hx hb dX12_check_105 (lv_at hl 4 rfl) ?_
  obtain ⟨h29, hf⟩ := chk_some hf
  refine AL_X12_products C hP h29 dX12_check_107 ?_
  refine lv_ladd hx hb dX12_check_108 ?_
  refine lv_topl (fun v30 ev30 => ?_)
  replace hf := bnd_at ev30 hf
  refine lv_lstore (lv' := [(4, .long v30), (0, .ref (a 0)), (2, .int x2), (3, .int x3), (6, .int x6)]) hx hb dX12_check_109 hl (by decide) rfl (fun ls hl => ?_)
  obtain ⟨v31, ev31⟩ : ∃ z : Int32, z = x6 + 1 := ⟨_, rfl⟩
  replace hf := bnd_at ev31 hf
  refine lv_iinc (v := v31) (lv' := [(6, .int v31), (4, .long v30), (0, .ref (a 0)), (2, .int x2), (3, .int x3)]) hx hb dX12_check_111 hl (k := 4) rfl (by rw [ev31]; rfl) (by decide) rfl (fun ls hl => ?_)
  refine lv_goto (tgt := 59) hx hb dX12_check_114 (by decide) ?_
  exact hk59 _ _ _ _ _ _ _ _ hf hP hD hS (lv_sub hl [2, 3, 4, 1, 0] rfl)
set_option maxHeartbeats 4000000 in
set_option maxRecDepth 100000 in
theorem w_X12_check_b59 {p : Program} {l : Launch} {e : Env} {s : State} {m : MethodId} {args : Array Value} {below : List Frame} {meth : Method} {c : Code} {g : va_G} {ts : ClassId × ClassId × ClassId} {A : Nat → Prop} {Q : State → Prop} {a : Nat → Nat} {r : Int64} {σ' : St} (C : FX p s m args meth c RX12 cX12_check 7 g ts A) (hQ : RetL p l e (rk 103 2231) s m args below meth c cX12_check g (WM ts a) A r σ' Q) : ∀ (n : Nat) (σ : St) (x2 : Int32) (x3 : Int32) (x4 : Int64) (x6 : Int32) (H : Heap) (locs : List Loc) (ls : Array Slot), f_X12_check_b59 n σ x2 x3 x4 x6 = some (r, σ') → va_P g classes (WM ts a σ) H → va_D A (WM ts a σ) → va_S A s.heap H locs → lv_has ls 7 [(0, .ref (a 0)), (2, .int x2), (3, .int x3), (4, .long x4), (6, .int x6)] → W p l e (rk 103 2231) s m args below meth c H locs 0 0 Q (F0 m 59 ls []) := by
  have hx := C.1
  have hb := C.2.1
  have hown := C.2.2.2.1
  have hts := C.2.2.2.2.1
  intro n
  induction n with
  | zero =>
    intro σ x2 x3 x4 x6 H locs ls hf
    cases hf
  | succ n ih =>
    intro σ x2 x3 x4 x6 H locs ls hf hP hD hS hl
    rw [f_X12_check_b59] at hf
    refine lv_iload hx hb dX12_check_59 (lv_at hl 4 rfl) ?_
    refine lv_aload_n hx hb dX12_check_61 rfl (lv_at hl 0 rfl) ?_
    refine G_X12_namesMany C hP q_1078 dX12_check_62 ?_
    refine lv_icmp_ge (tgt := 117) hx hb dX12_check_65 (by decide) (fun c17 => ?_) (fun c17 => ?_)
    · replace hf := ipos c17 hf
      refine lv_lload hx hb dX12_check_117 (lv_at hl 3 rfl) ?_
      refine lv_lconst (v := 0) hx hb dX12_check_119 (by decide) ?_
      refine lb_ne (tgt := 130) hx hb dX12_check_120 dX12_check_121 (by decide) (fun c18 => ?_) (fun c18 => ?_)
      · replace hf := ineg c18 hf
        refine lv_aload_n hx hb dX12_check_130 rfl (lv_at hl 0 rfl) ?_
        refine G_X12_products C hP q_1092 dX12_check_131 ?_
        refine lv_iload_n hx hb dX12_check_134 rfl (lv_at hl 1 rfl) ?_
        refine lv_bipush (v := 100) hx hb dX12_check_135 (by decide) ?_
        refine lv_idiv hx hb dX12_check_137 (by decide) ?_
        obtain ⟨h19, hf⟩ := chk_some hf
        refine AL_X12_products C hP h19 dX12_check_138 ?_
        refine lv_lload hx hb dX12_check_139 (lv_at hl 3 rfl) ?_
        refine lv_iload_n hx hb dX12_check_141 rfl (lv_at hl 2 rfl) ?_
        obtain ⟨r21, h20, hf⟩ := bnd1_some hf
        refine tL [] C hP hD hS (c_X12_partOf h20) ms_X12_partOf q_1331 dX12_check_142 ⟨Nat.le_of_ble_eq_true rfl, Nat.le_of_ble_eq_true rfl⟩ ⟨Nat.zero_le _, Nat.zero_le _⟩ rfl rfl (Nat.le_of_ble_eq_true rfl) hl.1 (fun H locs hP hD hS => ?_)
        exact retL hQ hf dX12_check_145 hP hD hS
      · replace hf := ipos c18 hf
        refine lv_ldc2 hx hb hown (hts _ q_1353) dX12_check_124 ?_
        refine lv_goto (tgt := 145) hx hb dX12_check_127 (by decide) ?_
        exact retL hQ hf dX12_check_145 hP hD hS
    · replace hf := ineg c17 hf
      refine lv_aload_n hx hb dX12_check_68 rfl (lv_at hl 0 rfl) ?_
      refine G_X12_products C hP q_1092 dX12_check_69 ?_
      refine lv_iload hx hb dX12_check_72 (lv_at hl 4 rfl) ?_
      refine lv_aload_n hx hb dX12_check_74 rfl (lv_at hl 0 rfl) ?_
      refine lv_iload hx hb dX12_check_75 (lv_at hl 4 rfl) ?_
      obtain ⟨r23, σ24, h22, hf⟩ := bnd2_some hf
      refine vI [.int x6, .ref (a 11)] C hP hD hS (c_X12_sumOf h22) mv_X12_sumOf q_1370 rv_X12 dX12_check_77 ⟨Nat.le_of_ble_eq_true rfl, Nat.le_of_ble_eq_true rfl⟩ ⟨Nat.zero_le _, Nat.zero_le _⟩ rfl rfl (Nat.le_of_ble_eq_true rfl) hl.1 (fun H locs hP hD hS => ?_)
      refine lv_iload_n hx hb dX12_check_80 rfl (lv_at hl 1 rfl) ?_
      refine lv_bipush (v := 100) hx hb dX12_check_81 (by decide) ?_
      refine lv_irem hx hb dX12_check_83 (by decide) ?_
      refine lv_icmp_ne (tgt := 97) hx hb dX12_check_84 (by decide) (fun c25 => ?_) (fun c25 => ?_)
      · replace hf := ineg c25 hf
        refine lv_lconst (v := 0) hx hb dX12_check_97 (by decide) ?_
        exact w_X12_check_b98 C hQ ih _ _ _ _ _ _ _ _ _ _ hf hP hD hS (lv_sub hl [0, 1, 2, 3, 4] rfl)
      · replace hf := ipos c25 hf
        refine lv_aload_n hx hb dX12_check_87 rfl (lv_at hl 0 rfl) ?_
        refine G_X12_products C hP q_1092 dX12_check_88 ?_
        refine lv_iload hx hb dX12_check_91 (lv_at hl 4 rfl) ?_
        obtain ⟨h26, hf⟩ := chk_some hf
        refine AL_X12_products C hP h26 dX12_check_93 ?_
        refine lv_goto (tgt := 98) hx hb dX12_check_94 (by decide) ?_
        exact w_X12_check_b98 C hQ ih _ _ _ _ _ _ _ _ _ _ hf hP hD hS (lv_sub hl [0, 1, 2, 3, 4] rfl)
set_option maxHeartbeats 4000000 in
set_option maxRecDepth 100000 in
theorem c_X12_check {l : Launch} {g : va_G} {ts : ClassId × ClassId × ClassId} {a : Nat → Nat} {σ : St} {p1 : Int32} {p2 : Int32} {p3 : Int32} {r : Int64} {σ' : St} (hf : f_X12_check σ p1 p2 p3 = some (r, σ')) : ConL l g ts (WM ts a) yX12_check cX12_check 7 (some .long) (rk 103 2231) σ [.ref (a 0), .int p1, .int p2, .int p3] r σ' := by
  refine ConL_mk rfl rfl (by decide) (Nat.le_of_ble_eq_true rfl) ?_
  intro p e s m below meth c A Q ls C hQ hP hD hS hl
  have C : FX p s m _ meth c RX12 cX12_check 7 g ts A := C
  have hx := C.1
  have hb := C.2.1
  have hown := C.2.2.2.1
  have hts := C.2.2.2.2.1
  have hl : lv_has ls 7 [(0, .ref (a 0)), (1, .int p1), (2, .int p2), (3, .int p3)] := hl
  rw [f_X12_check] at hf
  refine lv_aload_n hx hb dX12_check_0 rfl (lv_at hl 0 rfl) ?_
  refine lv_iload_n hx hb dX12_check_1 rfl (lv_at hl 1 rfl) ?_
  obtain ⟨r2, σ3, h1, hf⟩ := bnd2_some hf
  refine vI [] C hP hD hS (c_X12_bytesIs h1) mv_X12_bytesIs q_1222 rv_X12 dX12_check_2 ⟨Nat.le_of_ble_eq_true rfl, Nat.le_of_ble_eq_true rfl⟩ ⟨Nat.zero_le _, Nat.zero_le _⟩ rfl rfl (Nat.le_of_ble_eq_true rfl) hl.1 (fun H locs hP hD hS => ?_)
  refine lv_iconst (v := 1) hx hb dX12_check_5 (by decide) ?_
  refine lv_icmp_ne (tgt := 43) hx hb dX12_check_6 (by decide) (fun c4 => ?_) (fun c4 => ?_)
  · replace hf := ineg c4 hf
    refine lv_ldc2 hx hb hown (hts _ q_1326) dX12_check_43 ?_
    exact retL hQ hf dX12_check_46 hP hD hS
  · replace hf := ipos c4 hf
    refine lv_iload_n hx hb dX12_check_9 rfl (lv_at hl 2 rfl) ?_
    refine lv_if_lt (tgt := 43) hx hb dX12_check_10 (by decide) (fun c5 => ?_) (fun c5 => ?_)
    · replace hf := ipos c5 hf
      refine lv_ldc2 hx hb hown (hts _ q_1326) dX12_check_43 ?_
      exact retL hQ hf dX12_check_46 hP hD hS
    · replace hf := ineg c5 hf
      refine lv_aload_n hx hb dX12_check_13 rfl (lv_at hl 0 rfl) ?_
      refine lv_iload_n hx hb dX12_check_14 rfl (lv_at hl 2 rfl) ?_
      refine lv_bipush (v := 100) hx hb dX12_check_15 (by decide) ?_
      refine lv_idiv hx hb dX12_check_17 (by decide) ?_
      obtain ⟨r7, σ8, h6, hf⟩ := bnd2_some hf
      refine vI [] C hP hD hS (c_X12_isName h6) mv_X12_isName q_1242 rv_X12 dX12_check_18 ⟨Nat.le_of_ble_eq_true rfl, Nat.le_of_ble_eq_true rfl⟩ ⟨Nat.zero_le _, Nat.zero_le _⟩ rfl rfl (Nat.le_of_ble_eq_true rfl) hl.1 (fun H locs hP hD hS => ?_)
      refine lv_if_eq (tgt := 43) hx hb dX12_check_21 (by decide) (fun c9 => ?_) (fun c9 => ?_)
      · replace hf := ipos c9 hf
        refine lv_ldc2 hx hb hown (hts _ q_1326) dX12_check_43 ?_
        exact retL hQ hf dX12_check_46 hP hD hS
      · replace hf := ineg c9 hf
        refine lv_iload_n hx hb dX12_check_24 rfl (lv_at hl 2 rfl) ?_
        refine lv_bipush (v := 100) hx hb dX12_check_25 (by decide) ?_
        refine lv_irem hx hb dX12_check_27 (by decide) ?_
        refine lv_bipush (v := 11) hx hb dX12_check_28 (by decide) ?_
        refine lv_icmp_gt (tgt := 43) hx hb dX12_check_30 (by decide) (fun c10 => ?_) (fun c10 => ?_)
        · replace hf := ipos c10 hf
          refine lv_ldc2 hx hb hown (hts _ q_1326) dX12_check_43 ?_
          exact retL hQ hf dX12_check_46 hP hD hS
        · replace hf := ineg c10 hf
          refine lv_iload_n hx hb dX12_check_33 rfl (lv_at hl 3 rfl) ?_
          refine lv_i2l (v := (p3 : Int32).toInt64) hx hb dX12_check_34 rfl ?_
          refine lv_lconst (v := 0) hx hb dX12_check_35 (by decide) ?_
          refine lv_lconst (v := 1) hx hb dX12_check_36 (by decide) ?_
          obtain ⟨r12, h11, hf⟩ := bnd1_some hf
          refine tI [] C hP hD hS (c_X12_within h11) ms_X12_within q_1218 dX12_check_37 ⟨Nat.le_of_ble_eq_true rfl, Nat.le_of_ble_eq_true rfl⟩ ⟨Nat.zero_le _, Nat.zero_le _⟩ rfl rfl (Nat.le_of_ble_eq_true rfl) hl.1 (fun H locs hP hD hS => ?_)
          refine lv_if_ne (tgt := 47) hx hb dX12_check_40 (by decide) (fun c13 => ?_) (fun c13 => ?_)
          · replace hf := ineg c13 hf
            refine lv_aload_n hx hb dX12_check_47 rfl (lv_at hl 0 rfl) ?_
            refine lv_iload_n hx hb dX12_check_48 rfl (lv_at hl 1 rfl) ?_
            obtain ⟨r15, σ16, h14, hf⟩ := bnd2_some hf
            refine vL [] C hP hD hS (c_X12_asksProducts h14) mv_X12_asksProducts q_1341 rv_X12 dX12_check_49 ⟨Nat.le_of_ble_eq_true rfl, Nat.le_of_ble_eq_true rfl⟩ ⟨Nat.zero_le _, Nat.zero_le _⟩ rfl rfl (Nat.le_of_ble_eq_true rfl) hl.1 (fun H locs hP hD hS => ?_)
            refine lv_pop2_2 hx hb dX12_check_52 rfl ?_
            refine lv_lconst (v := 0) hx hb dX12_check_53 (by decide) ?_
            refine lv_lstore (lv' := [(4, .long (0 : Int64)), (0, .ref (a 0)), (1, .int p1), (2, .int p2), (3, .int p3)]) hx hb dX12_check_54 hl (by decide) rfl (fun ls hl => ?_)
            refine lv_iconst (v := 0) hx hb dX12_check_56 (by decide) ?_
            refine lv_istore (lv' := [(6, .int (0 : Int32)), (4, .long (0 : Int64)), (0, .ref (a 0)), (1, .int p1), (2, .int p2), (3, .int p3)]) hx hb dX12_check_57 hl (by decide) rfl (fun ls hl => ?_)
            exact w_X12_check_b59 C hQ 256 _ _ _ _ _ _ _ _ hf hP hD hS (lv_sub hl [2, 4, 5, 1, 0] rfl)
          · replace hf := ipos c13 hf
            refine lv_ldc2 hx hb hown (hts _ q_1326) dX12_check_43 ?_
            exact retL hQ hf dX12_check_46 hP hD hS
theorem dX12_againAt_0 : decode cX12_againAt 0 = .ok (.lconst 0, 1) := by decide +kernel
theorem dX12_againAt_1 : decode cX12_againAt 1 = .ok (.lstore_n 2, 1) := by decide +kernel
theorem dX12_againAt_2 : decode cX12_againAt 2 = .ok (.iconst 0, 1) := by decide +kernel
theorem dX12_againAt_3 : decode cX12_againAt 3 = .ok (.istore 4, 2) := by decide +kernel
theorem dX12_againAt_5 : decode cX12_againAt 5 = .ok (.iload 4, 2) := by decide +kernel
theorem dX12_againAt_7 : decode cX12_againAt 7 = .ok (.bipush 12, 2) := by decide +kernel
theorem dX12_againAt_9 : decode cX12_againAt 9 = .ok (.if_icmp .ge 94, 3) := by decide +kernel
theorem dX12_againAt_12 : decode cX12_againAt 12 = .ok (.lconst 0, 1) := by decide +kernel
theorem dX12_againAt_13 : decode cX12_againAt 13 = .ok (.lstore 5, 2) := by decide +kernel
theorem dX12_againAt_15 : decode cX12_againAt 15 = .ok (.iconst 0, 1) := by decide +kernel
theorem dX12_againAt_16 : decode cX12_againAt 16 = .ok (.istore 7, 2) := by decide +kernel
theorem dX12_againAt_18 : decode cX12_againAt 18 = .ok (.iload 7, 2) := by decide +kernel
theorem dX12_againAt_20 : decode cX12_againAt 20 = .ok (.aload_n 0, 1) := by decide +kernel
theorem dX12_againAt_21 : decode cX12_againAt 21 = .ok (.getfield 95, 3) := by decide +kernel
theorem dX12_againAt_24 : decode cX12_againAt 24 = .ok (.if_icmp .ge 68, 3) := by decide +kernel
theorem dX12_againAt_27 : decode cX12_againAt 27 = .ok (.aload_n 0, 1) := by decide +kernel
theorem dX12_againAt_28 : decode cX12_againAt 28 = .ok (.getfield 42, 3) := by decide +kernel
theorem dX12_againAt_31 : decode cX12_againAt 31 = .ok (.iload 7, 2) := by decide +kernel
theorem dX12_againAt_33 : decode cX12_againAt 33 = .ok (.laload, 1) := by decide +kernel
theorem dX12_againAt_34 : decode cX12_againAt 34 = .ok (.lconst 0, 1) := by decide +kernel
theorem dX12_againAt_35 : decode cX12_againAt 35 = .ok (.lcmp, 1) := by decide +kernel
theorem dX12_againAt_36 : decode cX12_againAt 36 = .ok (.ifCond .ne 7, 3) := by decide +kernel
theorem dX12_againAt_39 : decode cX12_againAt 39 = .ok (.lconst 0, 1) := by decide +kernel
theorem dX12_againAt_40 : decode cX12_againAt 40 = .ok (.goto 27, 3) := by decide +kernel
theorem dX12_againAt_43 : decode cX12_againAt 43 = .ok (.aload_n 0, 1) := by decide +kernel
theorem dX12_againAt_44 : decode cX12_againAt 44 = .ok (.getfield 42, 3) := by decide +kernel
theorem dX12_againAt_47 : decode cX12_againAt 47 = .ok (.iload 7, 2) := by decide +kernel
theorem dX12_againAt_49 : decode cX12_againAt 49 = .ok (.laload, 1) := by decide +kernel
theorem dX12_againAt_50 : decode cX12_againAt 50 = .ok (.aload_n 0, 1) := by decide +kernel
theorem dX12_againAt_51 : decode cX12_againAt 51 = .ok (.aload_n 0, 1) := by decide +kernel
theorem dX12_againAt_52 : decode cX12_againAt 52 = .ok (.iload 7, 2) := by decide +kernel
theorem dX12_againAt_54 : decode cX12_againAt 54 = .ok (.iload_n 1, 1) := by decide +kernel
theorem dX12_againAt_55 : decode cX12_againAt 55 = .ok (.invokevirtual 136, 3) := by decide +kernel
theorem dX12_againAt_58 : decode cX12_againAt 58 = .ok (.iload 4, 2) := by decide +kernel
theorem dX12_againAt_60 : decode cX12_againAt 60 = .ok (.i2l, 1) := by decide +kernel
theorem dX12_againAt_61 : decode cX12_againAt 61 = .ok (.iconst 1, 1) := by decide +kernel
theorem dX12_againAt_62 : decode cX12_againAt 62 = .ok (.invokevirtual 206, 3) := by decide +kernel
theorem dX12_againAt_65 : decode cX12_againAt 65 = .ok (.i2l, 1) := by decide +kernel
theorem dX12_againAt_66 : decode cX12_againAt 66 = .ok (.lmul, 1) := by decide +kernel
theorem dX12_againAt_67 : decode cX12_againAt 67 = .ok (.lstore 8, 2) := by decide +kernel
theorem dX12_againAt_69 : decode cX12_againAt 69 = .ok (.lload 8, 2) := by decide +kernel
theorem dX12_againAt_71 : decode cX12_againAt 71 = .ok (.lload 5, 2) := by decide +kernel
theorem dX12_againAt_73 : decode cX12_againAt 73 = .ok (.lcmp, 1) := by decide +kernel
theorem dX12_againAt_74 : decode cX12_againAt 74 = .ok (.ifCond .le 8, 3) := by decide +kernel
theorem dX12_againAt_77 : decode cX12_againAt 77 = .ok (.lload 8, 2) := by decide +kernel
theorem dX12_againAt_79 : decode cX12_againAt 79 = .ok (.goto 5, 3) := by decide +kernel
theorem dX12_againAt_82 : decode cX12_againAt 82 = .ok (.lload 5, 2) := by decide +kernel
theorem dX12_againAt_84 : decode cX12_againAt 84 = .ok (.lstore 5, 2) := by decide +kernel
theorem dX12_againAt_86 : decode cX12_againAt 86 = .ok (.iinc 7 1, 3) := by decide +kernel
theorem dX12_againAt_89 : decode cX12_againAt 89 = .ok (.goto (-71), 3) := by decide +kernel
theorem dX12_againAt_92 : decode cX12_againAt 92 = .ok (.lload_n 2, 1) := by decide +kernel
theorem dX12_againAt_93 : decode cX12_againAt 93 = .ok (.lload 5, 2) := by decide +kernel
theorem dX12_againAt_95 : decode cX12_againAt 95 = .ok (.ladd, 1) := by decide +kernel
theorem dX12_againAt_96 : decode cX12_againAt 96 = .ok (.lstore_n 2, 1) := by decide +kernel
theorem dX12_againAt_97 : decode cX12_againAt 97 = .ok (.iinc 4 1, 3) := by decide +kernel
theorem dX12_againAt_100 : decode cX12_againAt 100 = .ok (.goto (-95), 3) := by decide +kernel
theorem dX12_againAt_103 : decode cX12_againAt 103 = .ok (.lload_n 2, 1) := by decide +kernel
theorem dX12_againAt_104 : decode cX12_againAt 104 = .ok (.lreturn, 1) := by decide +kernel
def f_X12_againAt_b67 (k5 : St → Int32 → Int64 → Int32 → Option (Int64 × St)) (k18 : St → Int32 → Int64 → Int32 → Int64 → Int32 → Option (Int64 × St)) (σ : St) (x1 : Int32) (x2 : Int64) (x4 : Int32) (x5 : Int64) (x7 : Int32) (s0 : Int64) : Option (Int64 × St) := if s0 ≤ x5 then (bnd (x7 + 1) (fun v15 => k18 σ x1 x2 x4 x5 v15)) else (bnd (x7 + 1) (fun v16 => k18 σ x1 x2 x4 s0 v16))
def f_X12_againAt_b18 (k5 : St → Int32 → Int64 → Int32 → Option (Int64 × St)) : Nat → St → Int32 → Int64 → Int32 → Int64 → Int32 → Option (Int64 × St)
  | 0, _, _, _, _, _, _ => none
  | n + 1, σ, x1, x2, x4, x5, x7 => if σ.1 606 0 ≤ x7 then (bnd (x2 + x5) (fun v3 => bnd (x4 + 1) (fun v4 => k5 σ x1 v3 v4))) else (chk (x7 < 0 ∨ 10 ≤ x7.toNatClampNeg) (if σ.2.2.2.1 620 0 x7.toNatClampNeg = (0 : Int64) then (f_X12_againAt_b67 k5 (f_X12_againAt_b18 k5 n) σ x1 x2 x4 x5 x7 (0 : Int64)) else (chk (x7 < 0 ∨ 10 ≤ x7.toNatClampNeg) (bnd2 (f_X12_at1 σ x7 x1) (fun r9 σ10 => bnd2 (f_X12_partOfHeard σ10 r9 ((x4 : Int32).toInt64) (1 : Int32)) (fun r12 σ13 => f_X12_againAt_b67 k5 (f_X12_againAt_b18 k5 n) σ13 x1 x2 x4 x5 x7 ((σ.2.2.2.1 620 0 x7.toNatClampNeg) * ((r12 : Int32).toInt64))))))))
def f_X12_againAt_b5 : Nat → St → Int32 → Int64 → Int32 → Option (Int64 × St)
  | 0, _, _, _, _ => none
  | n + 1, σ, x1, x2, x4 => if (12 : Int32) ≤ x4 then (some (x2, σ)) else (f_X12_againAt_b18 (f_X12_againAt_b5 n) 256 σ x1 x2 x4 (0 : Int64) (0 : Int32))
def f_X12_againAt (σ : St) (p1 : Int32) : Option (Int64 × St) := f_X12_againAt_b5 256 σ p1 (0 : Int64) (0 : Int32)
set_option maxHeartbeats 4000000 in
set_option maxRecDepth 100000 in
theorem w_X12_againAt_b67 {p : Program} {l : Launch} {e : Env} {s : State} {m : MethodId} {args : Array Value} {below : List Frame} {meth : Method} {c : Code} {g : va_G} {ts : ClassId × ClassId × ClassId} {A : Nat → Prop} {Q : State → Prop} {a : Nat → Nat} {r : Int64} {σ' : St} {k5 : St → Int32 → Int64 → Int32 → Option (Int64 × St)} {k18 : St → Int32 → Int64 → Int32 → Int64 → Int32 → Option (Int64 × St)} (C : FX p s m args meth c RX12 cX12_againAt 10 g ts A) (hQ : RetL p l e (rk 101 2182) s m args below meth c cX12_againAt g (WM ts a) A r σ' Q) (hk5 : ∀ (σ : St) (x1 : Int32) (x2 : Int64) (x4 : Int32) (H : Heap) (locs : List Loc) (ls : Array Slot), k5 σ x1 x2 x4 = some (r, σ') → va_P g classes (WM ts a σ) H → va_D A (WM ts a σ) → va_S A s.heap H locs → lv_has ls 10 [(0, .ref (a 0)), (1, .int x1), (2, .long x2), (4, .int x4)] → W p l e (rk 101 2182) s m args below meth c H locs 0 0 Q (F0 m 5 ls [])) (hk18 : ∀ (σ : St) (x1 : Int32) (x2 : Int64) (x4 : Int32) (x5 : Int64) (x7 : Int32) (H : Heap) (locs : List Loc) (ls : Array Slot), k18 σ x1 x2 x4 x5 x7 = some (r, σ') → va_P g classes (WM ts a σ) H → va_D A (WM ts a σ) → va_S A s.heap H locs → lv_has ls 10 [(0, .ref (a 0)), (1, .int x1), (2, .long x2), (4, .int x4), (5, .long x5), (7, .int x7)] → W p l e (rk 101 2182) s m args below meth c H locs 0 0 Q (F0 m 18 ls [])) : ∀ (σ : St) (x1 : Int32) (x2 : Int64) (x4 : Int32) (x5 : Int64) (x7 : Int32) (s0 : Int64) (H : Heap) (locs : List Loc) (ls : Array Slot), f_X12_againAt_b67 k5 k18 σ x1 x2 x4 x5 x7 s0 = some (r, σ') → va_P g classes (WM ts a σ) H → va_D A (WM ts a σ) → va_S A s.heap H locs → lv_has ls 10 [(0, .ref (a 0)), (1, .int x1), (2, .long x2), (4, .int x4), (5, .long x5), (7, .int x7)] → W p l e (rk 101 2182) s m args below meth c H locs 0 0 Q (F0 m 67 ls [.long s0]) := by
  have hx := C.1
  have hb := C.2.1
  have hown := C.2.2.2.1
  have hts := C.2.2.2.2.1
  intro σ x1 x2 x4 x5 x7 s0 H locs ls hf hP hD hS hl
  rw [f_X12_againAt_b67] at hf
  refine lv_lstore (lv' := [(8, .long s0), (0, .ref (a 0)), (1, .int x1), (2, .long x2), (4, .int x4), (5, .long x5), (7, .int x7)]) hx hb dX12_againAt_67 hl (by decide) rfl (fun ls hl => ?_)
  refine lv_lload hx hb dX12_againAt_69 (lv_at hl 0 rfl) ?_
  refine lv_lload hx hb dX12_againAt_71 (lv_at hl 5 rfl) ?_
  refine lb_le (tgt := 82) hx hb dX12_againAt_73 dX12_againAt_74 (by decide) (fun c14 => ?_) (fun c14 => ?_)
  · replace hf := ipos c14 hf
    refine lv_lload hx hb dX12_againAt_82 (lv_at hl 5 rfl) ?_
    refine lv_lstore (lv' := [(5, .long x5), (8, .long s0), (0, .ref (a 0)), (1, .int x1), (2, .long x2), (4, .int x4), (7, .int x7)]) hx hb dX12_againAt_84 hl (by decide) rfl (fun ls hl => ?_)
    obtain ⟨v15, ev15⟩ : ∃ z : Int32, z = x7 + 1 := ⟨_, rfl⟩
    replace hf := bnd_at ev15 hf
    refine lv_iinc (v := v15) (lv' := [(7, .int v15), (5, .long x5), (8, .long s0), (0, .ref (a 0)), (1, .int x1), (2, .long x2), (4, .int x4)]) hx hb dX12_againAt_86 hl (k := 6) rfl (by rw [ev15]; rfl) (by decide) rfl (fun ls hl => ?_)
    refine lv_goto (tgt := 18) hx hb dX12_againAt_89 (by decide) ?_
    exact hk18 _ _ _ _ _ _ _ _ _ hf hP hD hS (lv_sub hl [3, 4, 5, 6, 1, 0] rfl)
  · replace hf := ineg c14 hf
    refine lv_lload hx hb dX12_againAt_77 (lv_at hl 0 rfl) ?_
    refine lv_goto (tgt := 84) hx hb dX12_againAt_79 (by decide) ?_
    refine lv_lstore (lv' := [(5, .long s0), (8, .long s0), (0, .ref (a 0)), (1, .int x1), (2, .long x2), (4, .int x4), (7, .int x7)]) hx hb dX12_againAt_84 hl (by decide) rfl (fun ls hl => ?_)
    obtain ⟨v16, ev16⟩ : ∃ z : Int32, z = x7 + 1 := ⟨_, rfl⟩
    replace hf := bnd_at ev16 hf
    refine lv_iinc (v := v16) (lv' := [(7, .int v16), (5, .long s0), (8, .long s0), (0, .ref (a 0)), (1, .int x1), (2, .long x2), (4, .int x4)]) hx hb dX12_againAt_86 hl (k := 6) rfl (by rw [ev16]; rfl) (by decide) rfl (fun ls hl => ?_)
    refine lv_goto (tgt := 18) hx hb dX12_againAt_89 (by decide) ?_
    exact hk18 _ _ _ _ _ _ _ _ _ hf hP hD hS (lv_sub hl [3, 4, 5, 6, 1, 0] rfl)
set_option maxHeartbeats 4000000 in
set_option maxRecDepth 100000 in
theorem w_X12_againAt_b18 {p : Program} {l : Launch} {e : Env} {s : State} {m : MethodId} {args : Array Value} {below : List Frame} {meth : Method} {c : Code} {g : va_G} {ts : ClassId × ClassId × ClassId} {A : Nat → Prop} {Q : State → Prop} {a : Nat → Nat} {r : Int64} {σ' : St} {k5 : St → Int32 → Int64 → Int32 → Option (Int64 × St)} (C : FX p s m args meth c RX12 cX12_againAt 10 g ts A) (hQ : RetL p l e (rk 101 2182) s m args below meth c cX12_againAt g (WM ts a) A r σ' Q) (hk5 : ∀ (σ : St) (x1 : Int32) (x2 : Int64) (x4 : Int32) (H : Heap) (locs : List Loc) (ls : Array Slot), k5 σ x1 x2 x4 = some (r, σ') → va_P g classes (WM ts a σ) H → va_D A (WM ts a σ) → va_S A s.heap H locs → lv_has ls 10 [(0, .ref (a 0)), (1, .int x1), (2, .long x2), (4, .int x4)] → W p l e (rk 101 2182) s m args below meth c H locs 0 0 Q (F0 m 5 ls [])) : ∀ (n : Nat) (σ : St) (x1 : Int32) (x2 : Int64) (x4 : Int32) (x5 : Int64) (x7 : Int32) (H : Heap) (locs : List Loc) (ls : Array Slot), f_X12_againAt_b18 k5 n σ x1 x2 x4 x5 x7 = some (r, σ') → va_P g classes (WM ts a σ) H → va_D A (WM ts a σ) → va_S A s.heap H locs → lv_has ls 10 [(0, .ref (a 0)), (1, .int x1), (2, .long x2), (4, .int x4), (5, .long x5), (7, .int x7)] → W p l e (rk 101 2182) s m args below meth c H locs 0 0 Q (F0 m 18 ls []) := by
  have hx := C.1
  have hb := C.2.1
  have hown := C.2.2.2.1
  have hts := C.2.2.2.2.1
  intro n
  induction n with
  | zero =>
    intro σ x1 x2 x4 x5 x7 H locs ls hf
    cases hf
  | succ n ih =>
    intro σ x1 x2 x4 x5 x7 H locs ls hf hP hD hS hl
    rw [f_X12_againAt_b18] at hf
    refine lv_iload hx hb dX12_againAt_18 (lv_at hl 5 rfl) ?_
    refine lv_aload_n hx hb dX12_againAt_20 rfl (lv_at hl 0 rfl) ?_
    refine G_X12_namesMany C hP q_1078 dX12_againAt_21 ?_
    refine lv_icmp_ge (tgt := 92) hx hb dX12_againAt_24 (by decide) (fun c2 => ?_) (fun c2 => ?_)
    · replace hf := ipos c2 hf
      refine lv_lload_n hx hb dX12_againAt_92 rfl (lv_at hl 2 rfl) ?_
      refine lv_lload hx hb dX12_againAt_93 (lv_at hl 4 rfl) ?_
      refine lv_ladd hx hb dX12_againAt_95 ?_
      refine lv_topl (fun v3 ev3 => ?_)
      replace hf := bnd_at ev3 hf
      refine lv_lstore_n (lv' := [(2, .long v3), (0, .ref (a 0)), (1, .int x1), (4, .int x4), (5, .long x5), (7, .int x7)]) hx hb dX12_againAt_96 rfl hl (by decide) rfl (fun ls hl => ?_)
      obtain ⟨v4, ev4⟩ : ∃ z : Int32, z = x4 + 1 := ⟨_, rfl⟩
      replace hf := bnd_at ev4 hf
      refine lv_iinc (v := v4) (lv' := [(4, .int v4), (2, .long v3), (0, .ref (a 0)), (1, .int x1), (5, .long x5), (7, .int x7)]) hx hb dX12_againAt_97 hl (k := 3) rfl (by rw [ev4]; rfl) (by decide) rfl (fun ls hl => ?_)
      refine lv_goto (tgt := 5) hx hb dX12_againAt_100 (by decide) ?_
      exact hk5 _ _ _ _ _ _ _ hf hP hD hS (lv_sub hl [2, 3, 1, 0] rfl)
    · replace hf := ineg c2 hf
      refine lv_aload_n hx hb dX12_againAt_27 rfl (lv_at hl 0 rfl) ?_
      refine G_X12_products C hP q_1092 dX12_againAt_28 ?_
      refine lv_iload hx hb dX12_againAt_31 (lv_at hl 5 rfl) ?_
      obtain ⟨h5, hf⟩ := chk_some hf
      refine AL_X12_products C hP h5 dX12_againAt_33 ?_
      refine lv_lconst (v := 0) hx hb dX12_againAt_34 (by decide) ?_
      refine lb_ne (tgt := 43) hx hb dX12_againAt_35 dX12_againAt_36 (by decide) (fun c6 => ?_) (fun c6 => ?_)
      · replace hf := ineg c6 hf
        refine lv_aload_n hx hb dX12_againAt_43 rfl (lv_at hl 0 rfl) ?_
        refine G_X12_products C hP q_1092 dX12_againAt_44 ?_
        refine lv_iload hx hb dX12_againAt_47 (lv_at hl 5 rfl) ?_
        obtain ⟨h7, hf⟩ := chk_some hf
        refine AL_X12_products C hP h7 dX12_againAt_49 ?_
        refine lv_aload_n hx hb dX12_againAt_50 rfl (lv_at hl 0 rfl) ?_
        refine lv_aload_n hx hb dX12_againAt_51 rfl (lv_at hl 0 rfl) ?_
        refine lv_iload hx hb dX12_againAt_52 (lv_at hl 5 rfl) ?_
        refine lv_iload_n hx hb dX12_againAt_54 rfl (lv_at hl 1 rfl) ?_
        obtain ⟨r9, σ10, h8, hf⟩ := bnd2_some hf
        refine vI [.ref (a 0), .long (σ.2.2.2.1 620 0 x7.toNatClampNeg)] C hP hD hS (c_X12_at1 h8) mv_X12_at1 q_1266 rv_X12 dX12_againAt_55 ⟨Nat.le_of_ble_eq_true rfl, Nat.le_of_ble_eq_true rfl⟩ ⟨Nat.zero_le _, Nat.zero_le _⟩ rfl rfl (Nat.le_of_ble_eq_true rfl) hl.1 (fun H locs hP hD hS => ?_)
        refine lv_iload hx hb dX12_againAt_58 (lv_at hl 3 rfl) ?_
        refine lv_i2l (v := (x4 : Int32).toInt64) hx hb dX12_againAt_60 rfl ?_
        refine lv_iconst (v := 1) hx hb dX12_againAt_61 (by decide) ?_
        obtain ⟨r12, σ13, h11, hf⟩ := bnd2_some hf
        refine vI [.long (σ.2.2.2.1 620 0 x7.toNatClampNeg)] C hP hD hS (c_X12_partOfHeard h11) mv_X12_partOfHeard q_1349 rv_X12 dX12_againAt_62 ⟨Nat.le_of_ble_eq_true rfl, Nat.le_of_ble_eq_true rfl⟩ ⟨Nat.zero_le _, Nat.zero_le _⟩ rfl rfl (Nat.le_of_ble_eq_true rfl) hl.1 (fun H locs hP hD hS => ?_)
        refine lv_i2l (v := (r12 : Int32).toInt64) hx hb dX12_againAt_65 rfl ?_
        refine lv_lmul hx hb dX12_againAt_66 ?_
        exact w_X12_againAt_b67 C hQ hk5 ih _ _ _ _ _ _ _ _ _ _ hf hP hD hS (lv_sub hl [0, 1, 2, 3, 4, 5] rfl)
      · replace hf := ipos c6 hf
        refine lv_lconst (v := 0) hx hb dX12_againAt_39 (by decide) ?_
        refine lv_goto (tgt := 67) hx hb dX12_againAt_40 (by decide) ?_
        exact w_X12_againAt_b67 C hQ hk5 ih _ _ _ _ _ _ _ _ _ _ hf hP hD hS (lv_sub hl [0, 1, 2, 3, 4, 5] rfl)
set_option maxHeartbeats 4000000 in
set_option maxRecDepth 100000 in
theorem w_X12_againAt_b5 {p : Program} {l : Launch} {e : Env} {s : State} {m : MethodId} {args : Array Value} {below : List Frame} {meth : Method} {c : Code} {g : va_G} {ts : ClassId × ClassId × ClassId} {A : Nat → Prop} {Q : State → Prop} {a : Nat → Nat} {r : Int64} {σ' : St} (C : FX p s m args meth c RX12 cX12_againAt 10 g ts A) (hQ : RetL p l e (rk 101 2182) s m args below meth c cX12_againAt g (WM ts a) A r σ' Q) : ∀ (n : Nat) (σ : St) (x1 : Int32) (x2 : Int64) (x4 : Int32) (H : Heap) (locs : List Loc) (ls : Array Slot), f_X12_againAt_b5 n σ x1 x2 x4 = some (r, σ') → va_P g classes (WM ts a σ) H → va_D A (WM ts a σ) → va_S A s.heap H locs → lv_has ls 10 [(0, .ref (a 0)), (1, .int x1), (2, .long x2), (4, .int x4)] → W p l e (rk 101 2182) s m args below meth c H locs 0 0 Q (F0 m 5 ls []) := by
  have hx := C.1
  have hb := C.2.1
  have hown := C.2.2.2.1
  have hts := C.2.2.2.2.1
  intro n
  induction n with
  | zero =>
    intro σ x1 x2 x4 H locs ls hf
    cases hf
  | succ n ih =>
    intro σ x1 x2 x4 H locs ls hf hP hD hS hl
    rw [f_X12_againAt_b5] at hf
    refine lv_iload hx hb dX12_againAt_5 (lv_at hl 3 rfl) ?_
    refine lv_bipush (v := 12) hx hb dX12_againAt_7 (by decide) ?_
    refine lv_icmp_ge (tgt := 103) hx hb dX12_againAt_9 (by decide) (fun c1 => ?_) (fun c1 => ?_)
    · replace hf := ipos c1 hf
      refine lv_lload_n hx hb dX12_againAt_103 rfl (lv_at hl 2 rfl) ?_
      exact retL hQ hf dX12_againAt_104 hP hD hS
    · replace hf := ineg c1 hf
      refine lv_lconst (v := 0) hx hb dX12_againAt_12 (by decide) ?_
      refine lv_lstore (lv' := [(5, .long (0 : Int64)), (0, .ref (a 0)), (1, .int x1), (2, .long x2), (4, .int x4)]) hx hb dX12_againAt_13 hl (by decide) rfl (fun ls hl => ?_)
      refine lv_iconst (v := 0) hx hb dX12_againAt_15 (by decide) ?_
      refine lv_istore (lv' := [(7, .int (0 : Int32)), (5, .long (0 : Int64)), (0, .ref (a 0)), (1, .int x1), (2, .long x2), (4, .int x4)]) hx hb dX12_againAt_16 hl (by decide) rfl (fun ls hl => ?_)
      exact w_X12_againAt_b18 C hQ ih 256 _ _ _ _ _ _ _ _ _ hf hP hD hS (lv_sub hl [2, 3, 4, 5, 1, 0] rfl)
set_option maxHeartbeats 4000000 in
set_option maxRecDepth 100000 in
theorem c_X12_againAt {l : Launch} {g : va_G} {ts : ClassId × ClassId × ClassId} {a : Nat → Nat} {σ : St} {p1 : Int32} {r : Int64} {σ' : St} (hf : f_X12_againAt σ p1 = some (r, σ')) : ConL l g ts (WM ts a) yX12_againAt cX12_againAt 10 (some .long) (rk 101 2182) σ [.ref (a 0), .int p1] r σ' := by
  refine ConL_mk rfl rfl (by decide) (Nat.le_of_ble_eq_true rfl) ?_
  intro p e s m below meth c A Q ls C hQ hP hD hS hl
  have C : FX p s m _ meth c RX12 cX12_againAt 10 g ts A := C
  have hx := C.1
  have hb := C.2.1
  have hown := C.2.2.2.1
  have hts := C.2.2.2.2.1
  have hl : lv_has ls 10 [(0, .ref (a 0)), (1, .int p1)] := hl
  rw [f_X12_againAt] at hf
  refine lv_lconst (v := 0) hx hb dX12_againAt_0 (by decide) ?_
  refine lv_lstore_n (lv' := [(2, .long (0 : Int64)), (0, .ref (a 0)), (1, .int p1)]) hx hb dX12_againAt_1 rfl hl (by decide) rfl (fun ls hl => ?_)
  refine lv_iconst (v := 0) hx hb dX12_againAt_2 (by decide) ?_
  refine lv_istore (lv' := [(4, .int (0 : Int32)), (2, .long (0 : Int64)), (0, .ref (a 0)), (1, .int p1)]) hx hb dX12_againAt_3 hl (by decide) rfl (fun ls hl => ?_)
  exact w_X12_againAt_b5 C hQ 256 _ _ _ _ _ _ _ hf hP hD hS (lv_sub hl [2, 3, 1, 0] rfl)
theorem dX12_again_0 : decode cX12_again 0 = .ok (.aload_n 0, 1) := by decide +kernel
theorem dX12_again_1 : decode cX12_again 1 = .ok (.iload_n 1, 1) := by decide +kernel
theorem dX12_again_2 : decode cX12_again 2 = .ok (.invokevirtual 104, 3) := by decide +kernel
theorem dX12_again_5 : decode cX12_again 5 = .ok (.iconst 1, 1) := by decide +kernel
theorem dX12_again_6 : decode cX12_again 6 = .ok (.if_icmp .ne 15, 3) := by decide +kernel
theorem dX12_again_9 : decode cX12_again 9 = .ok (.iload_n 2, 1) := by decide +kernel
theorem dX12_again_10 : decode cX12_again 10 = .ok (.i2l, 1) := by decide +kernel
theorem dX12_again_11 : decode cX12_again 11 = .ok (.lconst 0, 1) := by decide +kernel
theorem dX12_again_12 : decode cX12_again 12 = .ok (.ldc2_w 225, 3) := by decide +kernel
theorem dX12_again_15 : decode cX12_again 15 = .ok (.invokestatic 91, 3) := by decide +kernel
theorem dX12_again_18 : decode cX12_again 18 = .ok (.ifCond .ne 7, 3) := by decide +kernel
theorem dX12_again_21 : decode cX12_again 21 = .ok (.ldc2_w 200, 3) := by decide +kernel
theorem dX12_again_24 : decode cX12_again 24 = .ok (.lreturn, 1) := by decide +kernel
theorem dX12_again_25 : decode cX12_again 25 = .ok (.aload_n 0, 1) := by decide +kernel
theorem dX12_again_26 : decode cX12_again 26 = .ok (.iload_n 1, 1) := by decide +kernel
theorem dX12_again_27 : decode cX12_again 27 = .ok (.invokevirtual 213, 3) := by decide +kernel
theorem dX12_again_30 : decode cX12_again 30 = .ok (.lstore_n 3, 1) := by decide +kernel
theorem dX12_again_31 : decode cX12_again 31 = .ok (.lload_n 3, 1) := by decide +kernel
theorem dX12_again_32 : decode cX12_again 32 = .ok (.lconst 0, 1) := by decide +kernel
theorem dX12_again_33 : decode cX12_again 33 = .ok (.lcmp, 1) := by decide +kernel
theorem dX12_again_34 : decode cX12_again 34 = .ok (.ifCond .ne 7, 3) := by decide +kernel
theorem dX12_again_37 : decode cX12_again 37 = .ok (.ldc2_w 217, 3) := by decide +kernel
theorem dX12_again_40 : decode cX12_again 40 = .ok (.lreturn, 1) := by decide +kernel
theorem dX12_again_41 : decode cX12_again 41 = .ok (.iconst 0, 1) := by decide +kernel
theorem dX12_again_42 : decode cX12_again 42 = .ok (.istore 5, 2) := by decide +kernel
theorem dX12_again_44 : decode cX12_again 44 = .ok (.ldc2_w 227, 3) := by decide +kernel
theorem dX12_again_47 : decode cX12_again 47 = .ok (.lstore 6, 2) := by decide +kernel
theorem dX12_again_49 : decode cX12_again 49 = .ok (.iconst 0, 1) := by decide +kernel
theorem dX12_again_50 : decode cX12_again 50 = .ok (.istore 8, 2) := by decide +kernel
theorem dX12_again_52 : decode cX12_again 52 = .ok (.iload 8, 2) := by decide +kernel
theorem dX12_again_54 : decode cX12_again 54 = .ok (.aload_n 0, 1) := by decide +kernel
theorem dX12_again_55 : decode cX12_again 55 = .ok (.getfield 67, 3) := by decide +kernel
theorem dX12_again_58 : decode cX12_again 58 = .ok (.iload_n 1, 1) := by decide +kernel
theorem dX12_again_59 : decode cX12_again 59 = .ok (.iaload, 1) := by decide +kernel
theorem dX12_again_60 : decode cX12_again 60 = .ok (.if_icmp .ge 51, 3) := by decide +kernel
theorem dX12_again_63 : decode cX12_again 63 = .ok (.aload_n 0, 1) := by decide +kernel
theorem dX12_again_64 : decode cX12_again 64 = .ok (.iload 8, 2) := by decide +kernel
theorem dX12_again_66 : decode cX12_again 66 = .ok (.invokevirtual 229, 3) := by decide +kernel
theorem dX12_again_69 : decode cX12_again 69 = .ok (.lstore 9, 2) := by decide +kernel
theorem dX12_again_71 : decode cX12_again 71 = .ok (.lload 9, 2) := by decide +kernel
theorem dX12_again_73 : decode cX12_again 73 = .ok (.lload 6, 2) := by decide +kernel
theorem dX12_again_75 : decode cX12_again 75 = .ok (.lcmp, 1) := by decide +kernel
theorem dX12_again_76 : decode cX12_again 76 = .ok (.ifCond .le 8, 3) := by decide +kernel
theorem dX12_again_79 : decode cX12_again 79 = .ok (.iload 8, 2) := by decide +kernel
theorem dX12_again_81 : decode cX12_again 81 = .ok (.goto 5, 3) := by decide +kernel
theorem dX12_again_84 : decode cX12_again 84 = .ok (.iload 5, 2) := by decide +kernel
theorem dX12_again_86 : decode cX12_again 86 = .ok (.istore 5, 2) := by decide +kernel
theorem dX12_again_88 : decode cX12_again 88 = .ok (.lload 9, 2) := by decide +kernel
theorem dX12_again_90 : decode cX12_again 90 = .ok (.lload 6, 2) := by decide +kernel
theorem dX12_again_92 : decode cX12_again 92 = .ok (.lcmp, 1) := by decide +kernel
theorem dX12_again_93 : decode cX12_again 93 = .ok (.ifCond .le 8, 3) := by decide +kernel
theorem dX12_again_96 : decode cX12_again 96 = .ok (.lload 9, 2) := by decide +kernel
theorem dX12_again_98 : decode cX12_again 98 = .ok (.goto 5, 3) := by decide +kernel
theorem dX12_again_101 : decode cX12_again 101 = .ok (.lload 6, 2) := by decide +kernel
theorem dX12_again_103 : decode cX12_again 103 = .ok (.lstore 6, 2) := by decide +kernel
theorem dX12_again_105 : decode cX12_again 105 = .ok (.iinc 8 1, 3) := by decide +kernel
theorem dX12_again_108 : decode cX12_again 108 = .ok (.goto (-56), 3) := by decide +kernel
theorem dX12_again_111 : decode cX12_again 111 = .ok (.iload_n 2, 1) := by decide +kernel
theorem dX12_again_112 : decode cX12_again 112 = .ok (.iconst 2, 1) := by decide +kernel
theorem dX12_again_113 : decode cX12_again 113 = .ok (.if_icmp .ne 9, 3) := by decide +kernel
theorem dX12_again_116 : decode cX12_again 116 = .ok (.iload 5, 2) := by decide +kernel
theorem dX12_again_118 : decode cX12_again 118 = .ok (.i2l, 1) := by decide +kernel
theorem dX12_again_119 : decode cX12_again 119 = .ok (.goto 14, 3) := by decide +kernel
theorem dX12_again_122 : decode cX12_again 122 = .ok (.lload 6, 2) := by decide +kernel
theorem dX12_again_124 : decode cX12_again 124 = .ok (.ldc2_w 232, 3) := by decide +kernel
theorem dX12_again_127 : decode cX12_again 127 = .ok (.lload_n 3, 1) := by decide +kernel
theorem dX12_again_128 : decode cX12_again 128 = .ok (.lmul, 1) := by decide +kernel
theorem dX12_again_129 : decode cX12_again 129 = .ok (.iload_n 2, 1) := by decide +kernel
theorem dX12_again_130 : decode cX12_again 130 = .ok (.invokestatic 202, 3) := by decide +kernel
theorem dX12_again_133 : decode cX12_again 133 = .ok (.lreturn, 1) := by decide +kernel
def f_X12_again_b86 (k52 : St → Int32 → Int32 → Int64 → Int32 → Int64 → Int32 → Option (Int64 × St)) (σ : St) (x1 : Int32) (x2 : Int32) (x3 : Int64) (x6 : Int64) (x8 : Int32) (x9 : Int64) (s0 : Int32) : Option (Int64 × St) := if x9 ≤ x6 then (bnd (x8 + 1) (fun v22 => k52 σ x1 x2 x3 s0 x6 v22)) else (bnd (x8 + 1) (fun v23 => k52 σ x1 x2 x3 s0 x9 v23))
def f_X12_again_b52 : Nat → St → Int32 → Int32 → Int64 → Int32 → Int64 → Int32 → Option (Int64 × St)
  | 0, _, _, _, _, _, _, _ => none
  | n + 1, σ, x1, x2, x3, x5, x6, x8 => chk (x1 < 0 ∨ 6 ≤ x1.toNatClampNeg) (if σ.2.2.1 640 0 x1.toNatClampNeg ≤ x8 then (if x2 = (2 : Int32) then (some ((x5 : Int32).toInt64, σ)) else (bnd1 (f_X12_partOf x6 ((100 : Int64) * x3) x2) (fun r16 => some (r16, σ)))) else (bnd2 (f_X12_againAt σ x8) (fun r18 σ19 => if r18 ≤ x6 then (f_X12_again_b86 (f_X12_again_b52 n) σ19 x1 x2 x3 x6 x8 r18 x5) else (f_X12_again_b86 (f_X12_again_b52 n) σ19 x1 x2 x3 x6 x8 r18 x8))))
def f_X12_again (σ : St) (p1 : Int32) (p2 : Int32) : Option (Int64 × St) := bnd2 (f_X12_bytesIs σ p1) (fun r2 σ3 => if r2 = (1 : Int32) then (bnd1 (f_X12_within ((p2 : Int32).toInt64) (0 : Int64) (2 : Int64)) (fun r6 => if r6 = 0 then (some ((-9223372036854775808 : Int64), σ3)) else (bnd2 (f_X12_asksProducts σ3 p1) (fun r9 σ10 => if r9 = (0 : Int64) then (some ((-2 : Int64), σ10)) else (f_X12_again_b52 256 σ10 p1 p2 r9 (0 : Int32) (-1 : Int64) (0 : Int32)))))) else (some ((-9223372036854775808 : Int64), σ3)))
set_option maxHeartbeats 4000000 in
set_option maxRecDepth 100000 in
theorem w_X12_again_b86 {p : Program} {l : Launch} {e : Env} {s : State} {m : MethodId} {args : Array Value} {below : List Frame} {meth : Method} {c : Code} {g : va_G} {ts : ClassId × ClassId × ClassId} {A : Nat → Prop} {Q : State → Prop} {a : Nat → Nat} {r : Int64} {σ' : St} {k52 : St → Int32 → Int32 → Int64 → Int32 → Int64 → Int32 → Option (Int64 × St)} (C : FX p s m args meth c RX12 cX12_again 11 g ts A) (hQ : RetL p l e (rk 103 2231) s m args below meth c cX12_again g (WM ts a) A r σ' Q) (hk52 : ∀ (σ : St) (x1 : Int32) (x2 : Int32) (x3 : Int64) (x5 : Int32) (x6 : Int64) (x8 : Int32) (H : Heap) (locs : List Loc) (ls : Array Slot), k52 σ x1 x2 x3 x5 x6 x8 = some (r, σ') → va_P g classes (WM ts a σ) H → va_D A (WM ts a σ) → va_S A s.heap H locs → lv_has ls 11 [(0, .ref (a 0)), (1, .int x1), (2, .int x2), (3, .long x3), (5, .int x5), (6, .long x6), (8, .int x8)] → W p l e (rk 103 2231) s m args below meth c H locs 0 0 Q (F0 m 52 ls [])) : ∀ (σ : St) (x1 : Int32) (x2 : Int32) (x3 : Int64) (x6 : Int64) (x8 : Int32) (x9 : Int64) (s0 : Int32) (H : Heap) (locs : List Loc) (ls : Array Slot), f_X12_again_b86 k52 σ x1 x2 x3 x6 x8 x9 s0 = some (r, σ') → va_P g classes (WM ts a σ) H → va_D A (WM ts a σ) → va_S A s.heap H locs → lv_has ls 11 [(0, .ref (a 0)), (1, .int x1), (2, .int x2), (3, .long x3), (6, .long x6), (8, .int x8), (9, .long x9)] → W p l e (rk 103 2231) s m args below meth c H locs 0 0 Q (F0 m 86 ls [.int s0]) := by
  have hx := C.1
  have hb := C.2.1
  have hown := C.2.2.2.1
  have hts := C.2.2.2.2.1
  intro σ x1 x2 x3 x6 x8 x9 s0 H locs ls hf hP hD hS hl
  rw [f_X12_again_b86] at hf
  refine lv_istore (lv' := [(5, .int s0), (0, .ref (a 0)), (1, .int x1), (2, .int x2), (3, .long x3), (6, .long x6), (8, .int x8), (9, .long x9)]) hx hb dX12_again_86 hl (by decide) rfl (fun ls hl => ?_)
  refine lv_lload hx hb dX12_again_88 (lv_at hl 7 rfl) ?_
  refine lv_lload hx hb dX12_again_90 (lv_at hl 5 rfl) ?_
  refine lb_le (tgt := 101) hx hb dX12_again_92 dX12_again_93 (by decide) (fun c21 => ?_) (fun c21 => ?_)
  · replace hf := ipos c21 hf
    refine lv_lload hx hb dX12_again_101 (lv_at hl 5 rfl) ?_
    refine lv_lstore (lv' := [(6, .long x6), (5, .int s0), (0, .ref (a 0)), (1, .int x1), (2, .int x2), (3, .long x3), (8, .int x8), (9, .long x9)]) hx hb dX12_again_103 hl (by decide) rfl (fun ls hl => ?_)
    obtain ⟨v22, ev22⟩ : ∃ z : Int32, z = x8 + 1 := ⟨_, rfl⟩
    replace hf := bnd_at ev22 hf
    refine lv_iinc (v := v22) (lv' := [(8, .int v22), (6, .long x6), (5, .int s0), (0, .ref (a 0)), (1, .int x1), (2, .int x2), (3, .long x3), (9, .long x9)]) hx hb dX12_again_105 hl (k := 6) rfl (by rw [ev22]; rfl) (by decide) rfl (fun ls hl => ?_)
    refine lv_goto (tgt := 52) hx hb dX12_again_108 (by decide) ?_
    exact hk52 _ _ _ _ _ _ _ _ _ _ hf hP hD hS (lv_sub hl [3, 4, 5, 6, 2, 1, 0] rfl)
  · replace hf := ineg c21 hf
    refine lv_lload hx hb dX12_again_96 (lv_at hl 7 rfl) ?_
    refine lv_goto (tgt := 103) hx hb dX12_again_98 (by decide) ?_
    refine lv_lstore (lv' := [(6, .long x9), (5, .int s0), (0, .ref (a 0)), (1, .int x1), (2, .int x2), (3, .long x3), (8, .int x8), (9, .long x9)]) hx hb dX12_again_103 hl (by decide) rfl (fun ls hl => ?_)
    obtain ⟨v23, ev23⟩ : ∃ z : Int32, z = x8 + 1 := ⟨_, rfl⟩
    replace hf := bnd_at ev23 hf
    refine lv_iinc (v := v23) (lv' := [(8, .int v23), (6, .long x9), (5, .int s0), (0, .ref (a 0)), (1, .int x1), (2, .int x2), (3, .long x3), (9, .long x9)]) hx hb dX12_again_105 hl (k := 6) rfl (by rw [ev23]; rfl) (by decide) rfl (fun ls hl => ?_)
    refine lv_goto (tgt := 52) hx hb dX12_again_108 (by decide) ?_
    exact hk52 _ _ _ _ _ _ _ _ _ _ hf hP hD hS (lv_sub hl [3, 4, 5, 6, 2, 1, 0] rfl)
set_option maxHeartbeats 4000000 in
set_option maxRecDepth 100000 in
theorem w_X12_again_b52 {p : Program} {l : Launch} {e : Env} {s : State} {m : MethodId} {args : Array Value} {below : List Frame} {meth : Method} {c : Code} {g : va_G} {ts : ClassId × ClassId × ClassId} {A : Nat → Prop} {Q : State → Prop} {a : Nat → Nat} {r : Int64} {σ' : St} (C : FX p s m args meth c RX12 cX12_again 11 g ts A) (hQ : RetL p l e (rk 103 2231) s m args below meth c cX12_again g (WM ts a) A r σ' Q) : ∀ (n : Nat) (σ : St) (x1 : Int32) (x2 : Int32) (x3 : Int64) (x5 : Int32) (x6 : Int64) (x8 : Int32) (H : Heap) (locs : List Loc) (ls : Array Slot), f_X12_again_b52 n σ x1 x2 x3 x5 x6 x8 = some (r, σ') → va_P g classes (WM ts a σ) H → va_D A (WM ts a σ) → va_S A s.heap H locs → lv_has ls 11 [(0, .ref (a 0)), (1, .int x1), (2, .int x2), (3, .long x3), (5, .int x5), (6, .long x6), (8, .int x8)] → W p l e (rk 103 2231) s m args below meth c H locs 0 0 Q (F0 m 52 ls []) := by
  have hx := C.1
  have hb := C.2.1
  have hown := C.2.2.2.1
  have hts := C.2.2.2.2.1
  intro n
  induction n with
  | zero =>
    intro σ x1 x2 x3 x5 x6 x8 H locs ls hf
    cases hf
  | succ n ih =>
    intro σ x1 x2 x3 x5 x6 x8 H locs ls hf hP hD hS hl
    rw [f_X12_again_b52] at hf
    refine lv_iload hx hb dX12_again_52 (lv_at hl 6 rfl) ?_
    refine lv_aload_n hx hb dX12_again_54 rfl (lv_at hl 0 rfl) ?_
    refine G_X12_many C hP q_1112 dX12_again_55 ?_
    refine lv_iload_n hx hb dX12_again_58 rfl (lv_at hl 1 rfl) ?_
    obtain ⟨h12, hf⟩ := chk_some hf
    refine AL_X12_many C hP h12 dX12_again_59 ?_
    refine lv_icmp_ge (tgt := 111) hx hb dX12_again_60 (by decide) (fun c13 => ?_) (fun c13 => ?_)
    · replace hf := ipos c13 hf
      refine lv_iload_n hx hb dX12_again_111 rfl (lv_at hl 2 rfl) ?_
      refine lv_iconst (v := 2) hx hb dX12_again_112 (by decide) ?_
      refine lv_icmp_ne (tgt := 122) hx hb dX12_again_113 (by decide) (fun c14 => ?_) (fun c14 => ?_)
      · replace hf := ineg c14 hf
        refine lv_lload hx hb dX12_again_122 (lv_at hl 5 rfl) ?_
        refine lv_ldc2 hx hb hown (hts _ q_1384) dX12_again_124 ?_
        refine lv_lload_n hx hb dX12_again_127 rfl (lv_at hl 3 rfl) ?_
        refine lv_lmul hx hb dX12_again_128 ?_
        refine lv_iload_n hx hb dX12_again_129 rfl (lv_at hl 2 rfl) ?_
        obtain ⟨r16, h15, hf⟩ := bnd1_some hf
        refine tL [] C hP hD hS (c_X12_partOf h15) ms_X12_partOf q_1331 dX12_again_130 ⟨Nat.le_of_ble_eq_true rfl, Nat.le_of_ble_eq_true rfl⟩ ⟨Nat.zero_le _, Nat.zero_le _⟩ rfl rfl (Nat.le_of_ble_eq_true rfl) hl.1 (fun H locs hP hD hS => ?_)
        exact retL hQ hf dX12_again_133 hP hD hS
      · replace hf := ipos c14 hf
        refine lv_iload hx hb dX12_again_116 (lv_at hl 4 rfl) ?_
        refine lv_i2l (v := (x5 : Int32).toInt64) hx hb dX12_again_118 rfl ?_
        refine lv_goto (tgt := 133) hx hb dX12_again_119 (by decide) ?_
        exact retL hQ hf dX12_again_133 hP hD hS
    · replace hf := ineg c13 hf
      refine lv_aload_n hx hb dX12_again_63 rfl (lv_at hl 0 rfl) ?_
      refine lv_iload hx hb dX12_again_64 (lv_at hl 6 rfl) ?_
      obtain ⟨r18, σ19, h17, hf⟩ := bnd2_some hf
      refine vL [] C hP hD hS (c_X12_againAt h17) mv_X12_againAt q_1380 rv_X12 dX12_again_66 ⟨Nat.le_of_ble_eq_true rfl, Nat.le_of_ble_eq_true rfl⟩ ⟨Nat.zero_le _, Nat.zero_le _⟩ rfl rfl (Nat.le_of_ble_eq_true rfl) hl.1 (fun H locs hP hD hS => ?_)
      refine lv_lstore (lv' := [(9, .long r18), (0, .ref (a 0)), (1, .int x1), (2, .int x2), (3, .long x3), (5, .int x5), (6, .long x6), (8, .int x8)]) hx hb dX12_again_69 hl (by decide) rfl (fun ls hl => ?_)
      refine lv_lload hx hb dX12_again_71 (lv_at hl 0 rfl) ?_
      refine lv_lload hx hb dX12_again_73 (lv_at hl 6 rfl) ?_
      refine lb_le (tgt := 84) hx hb dX12_again_75 dX12_again_76 (by decide) (fun c20 => ?_) (fun c20 => ?_)
      · replace hf := ipos c20 hf
        refine lv_iload hx hb dX12_again_84 (lv_at hl 5 rfl) ?_
        exact w_X12_again_b86 C hQ ih _ _ _ _ _ _ _ _ _ _ _ hf hP hD hS (lv_sub hl [1, 2, 3, 4, 6, 7, 0] rfl)
      · replace hf := ineg c20 hf
        refine lv_iload hx hb dX12_again_79 (lv_at hl 7 rfl) ?_
        refine lv_goto (tgt := 86) hx hb dX12_again_81 (by decide) ?_
        exact w_X12_again_b86 C hQ ih _ _ _ _ _ _ _ _ _ _ _ hf hP hD hS (lv_sub hl [1, 2, 3, 4, 6, 7, 0] rfl)
set_option maxHeartbeats 4000000 in
set_option maxRecDepth 100000 in
theorem c_X12_again {l : Launch} {g : va_G} {ts : ClassId × ClassId × ClassId} {a : Nat → Nat} {σ : St} {p1 : Int32} {p2 : Int32} {r : Int64} {σ' : St} (hf : f_X12_again σ p1 p2 = some (r, σ')) : ConL l g ts (WM ts a) yX12_again cX12_again 11 (some .long) (rk 103 2231) σ [.ref (a 0), .int p1, .int p2] r σ' := by
  refine ConL_mk rfl rfl (by decide) (Nat.le_of_ble_eq_true rfl) ?_
  intro p e s m below meth c A Q ls C hQ hP hD hS hl
  have C : FX p s m _ meth c RX12 cX12_again 11 g ts A := C
  have hx := C.1
  have hb := C.2.1
  have hown := C.2.2.2.1
  have hts := C.2.2.2.2.1
  have hl : lv_has ls 11 [(0, .ref (a 0)), (1, .int p1), (2, .int p2)] := hl
  rw [f_X12_again] at hf
  refine lv_aload_n hx hb dX12_again_0 rfl (lv_at hl 0 rfl) ?_
  refine lv_iload_n hx hb dX12_again_1 rfl (lv_at hl 1 rfl) ?_
  obtain ⟨r2, σ3, h1, hf⟩ := bnd2_some hf
  refine vI [] C hP hD hS (c_X12_bytesIs h1) mv_X12_bytesIs q_1222 rv_X12 dX12_again_2 ⟨Nat.le_of_ble_eq_true rfl, Nat.le_of_ble_eq_true rfl⟩ ⟨Nat.zero_le _, Nat.zero_le _⟩ rfl rfl (Nat.le_of_ble_eq_true rfl) hl.1 (fun H locs hP hD hS => ?_)
  refine lv_iconst (v := 1) hx hb dX12_again_5 (by decide) ?_
  refine lv_icmp_ne (tgt := 21) hx hb dX12_again_6 (by decide) (fun c4 => ?_) (fun c4 => ?_)
  · replace hf := ineg c4 hf
    refine lv_ldc2 hx hb hown (hts _ q_1326) dX12_again_21 ?_
    exact retL hQ hf dX12_again_24 hP hD hS
  · replace hf := ipos c4 hf
    refine lv_iload_n hx hb dX12_again_9 rfl (lv_at hl 2 rfl) ?_
    refine lv_i2l (v := (p2 : Int32).toInt64) hx hb dX12_again_10 rfl ?_
    refine lv_lconst (v := 0) hx hb dX12_again_11 (by decide) ?_
    refine lv_ldc2 hx hb hown (hts _ q_1378) dX12_again_12 ?_
    obtain ⟨r6, h5, hf⟩ := bnd1_some hf
    refine tI [] C hP hD hS (c_X12_within h5) ms_X12_within q_1218 dX12_again_15 ⟨Nat.le_of_ble_eq_true rfl, Nat.le_of_ble_eq_true rfl⟩ ⟨Nat.zero_le _, Nat.zero_le _⟩ rfl rfl (Nat.le_of_ble_eq_true rfl) hl.1 (fun H locs hP hD hS => ?_)
    refine lv_if_ne (tgt := 25) hx hb dX12_again_18 (by decide) (fun c7 => ?_) (fun c7 => ?_)
    · replace hf := ineg c7 hf
      refine lv_aload_n hx hb dX12_again_25 rfl (lv_at hl 0 rfl) ?_
      refine lv_iload_n hx hb dX12_again_26 rfl (lv_at hl 1 rfl) ?_
      obtain ⟨r9, σ10, h8, hf⟩ := bnd2_some hf
      refine vL [] C hP hD hS (c_X12_asksProducts h8) mv_X12_asksProducts q_1341 rv_X12 dX12_again_27 ⟨Nat.le_of_ble_eq_true rfl, Nat.le_of_ble_eq_true rfl⟩ ⟨Nat.zero_le _, Nat.zero_le _⟩ rfl rfl (Nat.le_of_ble_eq_true rfl) hl.1 (fun H locs hP hD hS => ?_)
      refine lv_lstore_n (lv' := [(3, .long r9), (0, .ref (a 0)), (1, .int p1), (2, .int p2)]) hx hb dX12_again_30 rfl hl (by decide) rfl (fun ls hl => ?_)
      refine lv_lload_n hx hb dX12_again_31 rfl (lv_at hl 0 rfl) ?_
      refine lv_lconst (v := 0) hx hb dX12_again_32 (by decide) ?_
      refine lb_ne (tgt := 41) hx hb dX12_again_33 dX12_again_34 (by decide) (fun c11 => ?_) (fun c11 => ?_)
      · replace hf := ineg c11 hf
        refine lv_iconst (v := 0) hx hb dX12_again_41 (by decide) ?_
        refine lv_istore (lv' := [(5, .int (0 : Int32)), (3, .long r9), (0, .ref (a 0)), (1, .int p1), (2, .int p2)]) hx hb dX12_again_42 hl (by decide) rfl (fun ls hl => ?_)
        refine lv_ldc2 hx hb hown (hts _ q_1379) dX12_again_44 ?_
        refine lv_lstore (lv' := [(6, .long (-1 : Int64)), (5, .int (0 : Int32)), (3, .long r9), (0, .ref (a 0)), (1, .int p1), (2, .int p2)]) hx hb dX12_again_47 hl (by decide) rfl (fun ls hl => ?_)
        refine lv_iconst (v := 0) hx hb dX12_again_49 (by decide) ?_
        refine lv_istore (lv' := [(8, .int (0 : Int32)), (6, .long (-1 : Int64)), (5, .int (0 : Int32)), (3, .long r9), (0, .ref (a 0)), (1, .int p1), (2, .int p2)]) hx hb dX12_again_50 hl (by decide) rfl (fun ls hl => ?_)
        exact w_X12_again_b52 C hQ 256 _ _ _ _ _ _ _ _ _ _ hf hP hD hS (lv_sub hl [4, 5, 6, 3, 2, 1, 0] rfl)
      · replace hf := ipos c11 hf
        refine lv_ldc2 hx hb hown (hts _ q_1353) dX12_again_37 ?_
        exact retL hQ hf dX12_again_40 hP hD hS
    · replace hf := ipos c7 hf
      refine lv_ldc2 hx hb hown (hts _ q_1326) dX12_again_21 ?_
      exact retL hQ hf dX12_again_24 hP hD hS
theorem dX12_rightBy_0 : decode cX12_rightBy 0 = .ok (.lconst 1, 1) := by decide +kernel
theorem dX12_rightBy_1 : decode cX12_rightBy 1 = .ok (.lstore_n 3, 1) := by decide +kernel
theorem dX12_rightBy_2 : decode cX12_rightBy 2 = .ok (.iconst 0, 1) := by decide +kernel
theorem dX12_rightBy_3 : decode cX12_rightBy 3 = .ok (.istore 5, 2) := by decide +kernel
theorem dX12_rightBy_5 : decode cX12_rightBy 5 = .ok (.iload 5, 2) := by decide +kernel
theorem dX12_rightBy_7 : decode cX12_rightBy 7 = .ok (.aload_n 0, 1) := by decide +kernel
theorem dX12_rightBy_8 : decode cX12_rightBy 8 = .ok (.getfield 24, 3) := by decide +kernel
theorem dX12_rightBy_11 : decode cX12_rightBy 11 = .ok (.iload_n 1, 1) := by decide +kernel
theorem dX12_rightBy_12 : decode cX12_rightBy 12 = .ok (.iaload, 1) := by decide +kernel
theorem dX12_rightBy_13 : decode cX12_rightBy 13 = .ok (.if_icmp .ge 79, 3) := by decide +kernel
theorem dX12_rightBy_16 : decode cX12_rightBy 16 = .ok (.aload_n 0, 1) := by decide +kernel
theorem dX12_rightBy_17 : decode cX12_rightBy 17 = .ok (.iload_n 1, 1) := by decide +kernel
theorem dX12_rightBy_18 : decode cX12_rightBy 18 = .ok (.iload 5, 2) := by decide +kernel
theorem dX12_rightBy_20 : decode cX12_rightBy 20 = .ok (.invokevirtual 136, 3) := by decide +kernel
theorem dX12_rightBy_23 : decode cX12_rightBy 23 = .ok (.istore 6, 2) := by decide +kernel
theorem dX12_rightBy_25 : decode cX12_rightBy 25 = .ok (.aload_n 0, 1) := by decide +kernel
theorem dX12_rightBy_26 : decode cX12_rightBy 26 = .ok (.iload 6, 2) := by decide +kernel
theorem dX12_rightBy_28 : decode cX12_rightBy 28 = .ok (.iload 6, 2) := by decide +kernel
theorem dX12_rightBy_30 : decode cX12_rightBy 30 = .ok (.i2l, 1) := by decide +kernel
theorem dX12_rightBy_31 : decode cX12_rightBy 31 = .ok (.iconst 0, 1) := by decide +kernel
theorem dX12_rightBy_32 : decode cX12_rightBy 32 = .ok (.invokevirtual 206, 3) := by decide +kernel
theorem dX12_rightBy_35 : decode cX12_rightBy 35 = .ok (.istore 7, 2) := by decide +kernel
theorem dX12_rightBy_37 : decode cX12_rightBy 37 = .ok (.aload_n 0, 1) := by decide +kernel
theorem dX12_rightBy_38 : decode cX12_rightBy 38 = .ok (.getfield 11, 3) := by decide +kernel
theorem dX12_rightBy_41 : decode cX12_rightBy 41 = .ok (.sipush 166, 3) := by decide +kernel
theorem dX12_rightBy_44 : decode cX12_rightBy 44 = .ok (.iload 6, 2) := by decide +kernel
theorem dX12_rightBy_46 : decode cX12_rightBy 46 = .ok (.iadd, 1) := by decide +kernel
theorem dX12_rightBy_47 : decode cX12_rightBy 47 = .ok (.iaload, 1) := by decide +kernel
theorem dX12_rightBy_48 : decode cX12_rightBy 48 = .ok (.istore 8, 2) := by decide +kernel
theorem dX12_rightBy_50 : decode cX12_rightBy 50 = .ok (.lload_n 3, 1) := by decide +kernel
theorem dX12_rightBy_51 : decode cX12_rightBy 51 = .ok (.iload_n 2, 1) := by decide +kernel
theorem dX12_rightBy_52 : decode cX12_rightBy 52 = .ok (.iload 5, 2) := by decide +kernel
theorem dX12_rightBy_54 : decode cX12_rightBy 54 = .ok (.invokestatic 234, 3) := by decide +kernel
theorem dX12_rightBy_57 : decode cX12_rightBy 57 = .ok (.ifCond .eq 24, 3) := by decide +kernel
theorem dX12_rightBy_60 : decode cX12_rightBy 60 = .ok (.iload 8, 2) := by decide +kernel
theorem dX12_rightBy_62 : decode cX12_rightBy 62 = .ok (.bipush 100, 2) := by decide +kernel
theorem dX12_rightBy_64 : decode cX12_rightBy 64 = .ok (.imul, 1) := by decide +kernel
theorem dX12_rightBy_65 : decode cX12_rightBy 65 = .ok (.bipush 12, 2) := by decide +kernel
theorem dX12_rightBy_67 : decode cX12_rightBy 67 = .ok (.iload 8, 2) := by decide +kernel
theorem dX12_rightBy_69 : decode cX12_rightBy 69 = .ok (.isub, 1) := by decide +kernel
theorem dX12_rightBy_70 : decode cX12_rightBy 70 = .ok (.iload 7, 2) := by decide +kernel
theorem dX12_rightBy_72 : decode cX12_rightBy 72 = .ok (.imul, 1) := by decide +kernel
theorem dX12_rightBy_73 : decode cX12_rightBy 73 = .ok (.iadd, 1) := by decide +kernel
theorem dX12_rightBy_74 : decode cX12_rightBy 74 = .ok (.bipush 12, 2) := by decide +kernel
theorem dX12_rightBy_76 : decode cX12_rightBy 76 = .ok (.idiv, 1) := by decide +kernel
theorem dX12_rightBy_77 : decode cX12_rightBy 77 = .ok (.i2l, 1) := by decide +kernel
theorem dX12_rightBy_78 : decode cX12_rightBy 78 = .ok (.goto 6, 3) := by decide +kernel
theorem dX12_rightBy_81 : decode cX12_rightBy 81 = .ok (.iload 7, 2) := by decide +kernel
theorem dX12_rightBy_83 : decode cX12_rightBy 83 = .ok (.i2l, 1) := by decide +kernel
theorem dX12_rightBy_84 : decode cX12_rightBy 84 = .ok (.lmul, 1) := by decide +kernel
theorem dX12_rightBy_85 : decode cX12_rightBy 85 = .ok (.lstore_n 3, 1) := by decide +kernel
theorem dX12_rightBy_86 : decode cX12_rightBy 86 = .ok (.iinc 5 1, 3) := by decide +kernel
theorem dX12_rightBy_89 : decode cX12_rightBy 89 = .ok (.goto (-84), 3) := by decide +kernel
theorem dX12_rightBy_92 : decode cX12_rightBy 92 = .ok (.lload_n 3, 1) := by decide +kernel
theorem dX12_rightBy_93 : decode cX12_rightBy 93 = .ok (.lreturn, 1) := by decide +kernel
def f_X12_rightBy_b5 : Nat → St → Int32 → Int32 → Int64 → Int32 → Option (Int64 × St)
  | 0, _, _, _, _, _ => none
  | n + 1, σ, x1, x2, x3, x5 => chk (x1 < 0 ∨ 10 ≤ x1.toNatClampNeg) (if σ.2.2.1 607 0 x1.toNatClampNeg ≤ x5 then (some (x3, σ)) else (bnd2 (f_X12_at1 σ x1 x5) (fun r4 σ5 => bnd2 (f_X12_partOfHeard σ5 r4 ((r4 : Int32).toInt64) (0 : Int32)) (fun r7 σ8 => chk ((166 : Int32) + r4 < 0 ∨ 179 ≤ ((166 : Int32) + r4).toNatClampNeg) (bnd (σ8.2.2.1 600 0 ((166 : Int32) + r4).toNatClampNeg) (fun v10 => bnd1 (f_X12_isIn x2 x5) (fun r12 => if r12 = 0 then (bnd (x3 * ((r7 : Int32).toInt64)) (fun v14 => bnd (x5 + 1) (fun v15 => f_X12_rightBy_b5 n σ8 x1 x2 v14 v15))) else (bnd (x3 * (((((v10 * (100 : Int32)) + (((12 : Int32) - v10) * r7)) / (12 : Int32)) : Int32).toInt64)) (fun v16 => bnd (x5 + 1) (fun v17 => f_X12_rightBy_b5 n σ8 x1 x2 v16 v17))))))))))
def f_X12_rightBy (σ : St) (p1 : Int32) (p2 : Int32) : Option (Int64 × St) := f_X12_rightBy_b5 256 σ p1 p2 (1 : Int64) (0 : Int32)
set_option maxHeartbeats 4000000 in
set_option maxRecDepth 100000 in
theorem w_X12_rightBy_b5 {p : Program} {l : Launch} {e : Env} {s : State} {m : MethodId} {args : Array Value} {below : List Frame} {meth : Method} {c : Code} {g : va_G} {ts : ClassId × ClassId × ClassId} {A : Nat → Prop} {Q : State → Prop} {a : Nat → Nat} {r : Int64} {σ' : St} (C : FX p s m args meth c RX12 cX12_rightBy 9 g ts A) (hQ : RetL p l e (rk 101 2182) s m args below meth c cX12_rightBy g (WM ts a) A r σ' Q) : ∀ (n : Nat) (σ : St) (x1 : Int32) (x2 : Int32) (x3 : Int64) (x5 : Int32) (H : Heap) (locs : List Loc) (ls : Array Slot), f_X12_rightBy_b5 n σ x1 x2 x3 x5 = some (r, σ') → va_P g classes (WM ts a σ) H → va_D A (WM ts a σ) → va_S A s.heap H locs → lv_has ls 9 [(0, .ref (a 0)), (1, .int x1), (2, .int x2), (3, .long x3), (5, .int x5)] → W p l e (rk 101 2182) s m args below meth c H locs 0 0 Q (F0 m 5 ls []) := by
  have hx := C.1
  have hb := C.2.1
  have hown := C.2.2.2.1
  have hts := C.2.2.2.2.1
  intro n
  induction n with
  | zero =>
    intro σ x1 x2 x3 x5 H locs ls hf
    cases hf
  | succ n ih =>
    intro σ x1 x2 x3 x5 H locs ls hf hP hD hS hl
    rw [f_X12_rightBy_b5] at hf
    refine lv_iload hx hb dX12_rightBy_5 (lv_at hl 4 rfl) ?_
    refine lv_aload_n hx hb dX12_rightBy_7 rfl (lv_at hl 0 rfl) ?_
    refine G_X12_longs C hP q_1079 dX12_rightBy_8 ?_
    refine lv_iload_n hx hb dX12_rightBy_11 rfl (lv_at hl 1 rfl) ?_
    obtain ⟨h1, hf⟩ := chk_some hf
    refine AL_X12_longs C hP h1 dX12_rightBy_12 ?_
    refine lv_icmp_ge (tgt := 92) hx hb dX12_rightBy_13 (by decide) (fun c2 => ?_) (fun c2 => ?_)
    · replace hf := ipos c2 hf
      refine lv_lload_n hx hb dX12_rightBy_92 rfl (lv_at hl 3 rfl) ?_
      exact retL hQ hf dX12_rightBy_93 hP hD hS
    · replace hf := ineg c2 hf
      refine lv_aload_n hx hb dX12_rightBy_16 rfl (lv_at hl 0 rfl) ?_
      refine lv_iload_n hx hb dX12_rightBy_17 rfl (lv_at hl 1 rfl) ?_
      refine lv_iload hx hb dX12_rightBy_18 (lv_at hl 4 rfl) ?_
      obtain ⟨r4, σ5, h3, hf⟩ := bnd2_some hf
      refine vI [] C hP hD hS (c_X12_at1 h3) mv_X12_at1 q_1266 rv_X12 dX12_rightBy_20 ⟨Nat.le_of_ble_eq_true rfl, Nat.le_of_ble_eq_true rfl⟩ ⟨Nat.zero_le _, Nat.zero_le _⟩ rfl rfl (Nat.le_of_ble_eq_true rfl) hl.1 (fun H locs hP hD hS => ?_)
      refine lv_istore (lv' := [(6, .int r4), (0, .ref (a 0)), (1, .int x1), (2, .int x2), (3, .long x3), (5, .int x5)]) hx hb dX12_rightBy_23 hl (by decide) rfl (fun ls hl => ?_)
      refine lv_aload_n hx hb dX12_rightBy_25 rfl (lv_at hl 1 rfl) ?_
      refine lv_iload hx hb dX12_rightBy_26 (lv_at hl 0 rfl) ?_
      refine lv_iload hx hb dX12_rightBy_28 (lv_at hl 0 rfl) ?_
      refine lv_i2l (v := (r4 : Int32).toInt64) hx hb dX12_rightBy_30 rfl ?_
      refine lv_iconst (v := 0) hx hb dX12_rightBy_31 (by decide) ?_
      obtain ⟨r7, σ8, h6, hf⟩ := bnd2_some hf
      refine vI [] C hP hD hS (c_X12_partOfHeard h6) mv_X12_partOfHeard q_1349 rv_X12 dX12_rightBy_32 ⟨Nat.le_of_ble_eq_true rfl, Nat.le_of_ble_eq_true rfl⟩ ⟨Nat.zero_le _, Nat.zero_le _⟩ rfl rfl (Nat.le_of_ble_eq_true rfl) hl.1 (fun H locs hP hD hS => ?_)
      refine lv_istore (lv' := [(7, .int r7), (6, .int r4), (0, .ref (a 0)), (1, .int x1), (2, .int x2), (3, .long x3), (5, .int x5)]) hx hb dX12_rightBy_35 hl (by decide) rfl (fun ls hl => ?_)
      refine lv_aload_n hx hb dX12_rightBy_37 rfl (lv_at hl 2 rfl) ?_
      refine G_X12_may C hP q_1072 dX12_rightBy_38 ?_
      refine lv_sipush (v := 166) hx hb dX12_rightBy_41 (by decide) ?_
      refine lv_iload hx hb dX12_rightBy_44 (lv_at hl 1 rfl) ?_
      refine lv_iadd hx hb dX12_rightBy_46 ?_
      obtain ⟨h9, hf⟩ := chk_some hf
      refine AL_X12_may C hP h9 dX12_rightBy_47 ?_
      refine lv_topi (fun v10 ev10 => ?_)
      replace hf := bnd_at ev10 hf
      refine lv_istore (lv' := [(8, .int v10), (7, .int r7), (6, .int r4), (0, .ref (a 0)), (1, .int x1), (2, .int x2), (3, .long x3), (5, .int x5)]) hx hb dX12_rightBy_48 hl (by decide) rfl (fun ls hl => ?_)
      refine lv_lload_n hx hb dX12_rightBy_50 rfl (lv_at hl 6 rfl) ?_
      refine lv_iload_n hx hb dX12_rightBy_51 rfl (lv_at hl 5 rfl) ?_
      refine lv_iload hx hb dX12_rightBy_52 (lv_at hl 7 rfl) ?_
      obtain ⟨r12, h11, hf⟩ := bnd1_some hf
      refine tI [.long x3] C hP hD hS (c_X12_isIn h11) ms_X12_isIn q_1397 dX12_rightBy_54 ⟨Nat.le_of_ble_eq_true rfl, Nat.le_of_ble_eq_true rfl⟩ ⟨Nat.zero_le _, Nat.zero_le _⟩ rfl rfl (Nat.le_of_ble_eq_true rfl) hl.1 (fun H locs hP hD hS => ?_)
      refine lv_if_eq (tgt := 81) hx hb dX12_rightBy_57 (by decide) (fun c13 => ?_) (fun c13 => ?_)
      · replace hf := ipos c13 hf
        refine lv_iload hx hb dX12_rightBy_81 (lv_at hl 1 rfl) ?_
        refine lv_i2l (v := (r7 : Int32).toInt64) hx hb dX12_rightBy_83 rfl ?_
        refine lv_lmul hx hb dX12_rightBy_84 ?_
        refine lv_topl (fun v14 ev14 => ?_)
        replace hf := bnd_at ev14 hf
        refine lv_lstore_n (lv' := [(3, .long v14), (8, .int v10), (7, .int r7), (6, .int r4), (0, .ref (a 0)), (1, .int x1), (2, .int x2), (5, .int x5)]) hx hb dX12_rightBy_85 rfl hl (by decide) rfl (fun ls hl => ?_)
        obtain ⟨v15, ev15⟩ : ∃ z : Int32, z = x5 + 1 := ⟨_, rfl⟩
        replace hf := bnd_at ev15 hf
        refine lv_iinc (v := v15) (lv' := [(5, .int v15), (3, .long v14), (8, .int v10), (7, .int r7), (6, .int r4), (0, .ref (a 0)), (1, .int x1), (2, .int x2)]) hx hb dX12_rightBy_86 hl (k := 7) rfl (by rw [ev15]; rfl) (by decide) rfl (fun ls hl => ?_)
        refine lv_goto (tgt := 5) hx hb dX12_rightBy_89 (by decide) ?_
        exact ih _ _ _ _ _ _ _ _ hf hP hD hS (lv_sub hl [5, 6, 7, 1, 0] rfl)
      · replace hf := ineg c13 hf
        refine lv_iload hx hb dX12_rightBy_60 (lv_at hl 0 rfl) ?_
        refine lv_bipush (v := 100) hx hb dX12_rightBy_62 (by decide) ?_
        refine lv_imul hx hb dX12_rightBy_64 ?_
        refine lv_bipush (v := 12) hx hb dX12_rightBy_65 (by decide) ?_
        refine lv_iload hx hb dX12_rightBy_67 (lv_at hl 0 rfl) ?_
        refine lv_isub hx hb dX12_rightBy_69 ?_
        refine lv_iload hx hb dX12_rightBy_70 (lv_at hl 1 rfl) ?_
        refine lv_imul hx hb dX12_rightBy_72 ?_
        refine lv_iadd hx hb dX12_rightBy_73 ?_
        refine lv_bipush (v := 12) hx hb dX12_rightBy_74 (by decide) ?_
        refine lv_idiv hx hb dX12_rightBy_76 (by decide) ?_
        refine lv_i2l (v := ((((v10 * (100 : Int32)) + (((12 : Int32) - v10) * r7)) / (12 : Int32)) : Int32).toInt64) hx hb dX12_rightBy_77 rfl ?_
        refine lv_goto (tgt := 84) hx hb dX12_rightBy_78 (by decide) ?_
        refine lv_lmul hx hb dX12_rightBy_84 ?_
        refine lv_topl (fun v16 ev16 => ?_)
        replace hf := bnd_at ev16 hf
        refine lv_lstore_n (lv' := [(3, .long v16), (8, .int v10), (7, .int r7), (6, .int r4), (0, .ref (a 0)), (1, .int x1), (2, .int x2), (5, .int x5)]) hx hb dX12_rightBy_85 rfl hl (by decide) rfl (fun ls hl => ?_)
        obtain ⟨v17, ev17⟩ : ∃ z : Int32, z = x5 + 1 := ⟨_, rfl⟩
        replace hf := bnd_at ev17 hf
        refine lv_iinc (v := v17) (lv' := [(5, .int v17), (3, .long v16), (8, .int v10), (7, .int r7), (6, .int r4), (0, .ref (a 0)), (1, .int x1), (2, .int x2)]) hx hb dX12_rightBy_86 hl (k := 7) rfl (by rw [ev17]; rfl) (by decide) rfl (fun ls hl => ?_)
        refine lv_goto (tgt := 5) hx hb dX12_rightBy_89 (by decide) ?_
        exact ih _ _ _ _ _ _ _ _ hf hP hD hS (lv_sub hl [5, 6, 7, 1, 0] rfl)
set_option maxHeartbeats 4000000 in
set_option maxRecDepth 100000 in
theorem c_X12_rightBy {l : Launch} {g : va_G} {ts : ClassId × ClassId × ClassId} {a : Nat → Nat} {σ : St} {p1 : Int32} {p2 : Int32} {r : Int64} {σ' : St} (hf : f_X12_rightBy σ p1 p2 = some (r, σ')) : ConL l g ts (WM ts a) yX12_rightBy cX12_rightBy 9 (some .long) (rk 101 2182) σ [.ref (a 0), .int p1, .int p2] r σ' := by
  refine ConL_mk rfl rfl (by decide) (Nat.le_of_ble_eq_true rfl) ?_
  intro p e s m below meth c A Q ls C hQ hP hD hS hl
  have C : FX p s m _ meth c RX12 cX12_rightBy 9 g ts A := C
  have hx := C.1
  have hb := C.2.1
  have hown := C.2.2.2.1
  have hts := C.2.2.2.2.1
  have hl : lv_has ls 9 [(0, .ref (a 0)), (1, .int p1), (2, .int p2)] := hl
  rw [f_X12_rightBy] at hf
  refine lv_lconst (v := 1) hx hb dX12_rightBy_0 (by decide) ?_
  refine lv_lstore_n (lv' := [(3, .long (1 : Int64)), (0, .ref (a 0)), (1, .int p1), (2, .int p2)]) hx hb dX12_rightBy_1 rfl hl (by decide) rfl (fun ls hl => ?_)
  refine lv_iconst (v := 0) hx hb dX12_rightBy_2 (by decide) ?_
  refine lv_istore (lv' := [(5, .int (0 : Int32)), (3, .long (1 : Int64)), (0, .ref (a 0)), (1, .int p1), (2, .int p2)]) hx hb dX12_rightBy_3 hl (by decide) rfl (fun ls hl => ?_)
  exact w_X12_rightBy_b5 C hQ 256 _ _ _ _ _ _ _ _ hf hP hD hS (lv_sub hl [2, 3, 4, 1, 0] rfl)
theorem dX12_timeBy_0 : decode cX12_timeBy 0 = .ok (.iconst 0, 1) := by decide +kernel
theorem dX12_timeBy_1 : decode cX12_timeBy 1 = .ok (.istore_n 3, 1) := by decide +kernel
theorem dX12_timeBy_2 : decode cX12_timeBy 2 = .ok (.iconst 0, 1) := by decide +kernel
theorem dX12_timeBy_3 : decode cX12_timeBy 3 = .ok (.istore 4, 2) := by decide +kernel
theorem dX12_timeBy_5 : decode cX12_timeBy 5 = .ok (.iload 4, 2) := by decide +kernel
theorem dX12_timeBy_7 : decode cX12_timeBy 7 = .ok (.aload_n 0, 1) := by decide +kernel
theorem dX12_timeBy_8 : decode cX12_timeBy 8 = .ok (.getfield 24, 3) := by decide +kernel
theorem dX12_timeBy_11 : decode cX12_timeBy 11 = .ok (.iload_n 1, 1) := by decide +kernel
theorem dX12_timeBy_12 : decode cX12_timeBy 12 = .ok (.iaload, 1) := by decide +kernel
theorem dX12_timeBy_13 : decode cX12_timeBy 13 = .ok (.if_icmp .ge 41, 3) := by decide +kernel
theorem dX12_timeBy_16 : decode cX12_timeBy 16 = .ok (.iload_n 3, 1) := by decide +kernel
theorem dX12_timeBy_17 : decode cX12_timeBy 17 = .ok (.iload_n 2, 1) := by decide +kernel
theorem dX12_timeBy_18 : decode cX12_timeBy 18 = .ok (.iload 4, 2) := by decide +kernel
theorem dX12_timeBy_20 : decode cX12_timeBy 20 = .ok (.invokestatic 234, 3) := by decide +kernel
theorem dX12_timeBy_23 : decode cX12_timeBy 23 = .ok (.ifCond .eq 22, 3) := by decide +kernel
theorem dX12_timeBy_26 : decode cX12_timeBy 26 = .ok (.aload_n 0, 1) := by decide +kernel
theorem dX12_timeBy_27 : decode cX12_timeBy 27 = .ok (.getfield 11, 3) := by decide +kernel
theorem dX12_timeBy_30 : decode cX12_timeBy 30 = .ok (.sipush 154, 3) := by decide +kernel
theorem dX12_timeBy_33 : decode cX12_timeBy 33 = .ok (.aload_n 0, 1) := by decide +kernel
theorem dX12_timeBy_34 : decode cX12_timeBy 34 = .ok (.iload_n 1, 1) := by decide +kernel
theorem dX12_timeBy_35 : decode cX12_timeBy 35 = .ok (.iload 4, 2) := by decide +kernel
theorem dX12_timeBy_37 : decode cX12_timeBy 37 = .ok (.invokevirtual 136, 3) := by decide +kernel
theorem dX12_timeBy_40 : decode cX12_timeBy 40 = .ok (.iadd, 1) := by decide +kernel
theorem dX12_timeBy_41 : decode cX12_timeBy 41 = .ok (.iaload, 1) := by decide +kernel
theorem dX12_timeBy_42 : decode cX12_timeBy 42 = .ok (.goto 4, 3) := by decide +kernel
theorem dX12_timeBy_45 : decode cX12_timeBy 45 = .ok (.iconst 1, 1) := by decide +kernel
theorem dX12_timeBy_46 : decode cX12_timeBy 46 = .ok (.iadd, 1) := by decide +kernel
theorem dX12_timeBy_47 : decode cX12_timeBy 47 = .ok (.istore_n 3, 1) := by decide +kernel
theorem dX12_timeBy_48 : decode cX12_timeBy 48 = .ok (.iinc 4 1, 3) := by decide +kernel
theorem dX12_timeBy_51 : decode cX12_timeBy 51 = .ok (.goto (-46), 3) := by decide +kernel
theorem dX12_timeBy_54 : decode cX12_timeBy 54 = .ok (.iload_n 3, 1) := by decide +kernel
theorem dX12_timeBy_55 : decode cX12_timeBy 55 = .ok (.ireturn, 1) := by decide +kernel
def f_X12_timeBy_b5 : Nat → St → Int32 → Int32 → Int32 → Int32 → Option (Int32 × St)
  | 0, _, _, _, _, _ => none
  | n + 1, σ, x1, x2, x3, x4 => chk (x1 < 0 ∨ 10 ≤ x1.toNatClampNeg) (if σ.2.2.1 607 0 x1.toNatClampNeg ≤ x4 then (some (x3, σ)) else (bnd1 (f_X12_isIn x2 x4) (fun r4 => if r4 = 0 then (bnd (x3 + (1 : Int32)) (fun v6 => bnd (x4 + 1) (fun v7 => f_X12_timeBy_b5 n σ x1 x2 v6 v7))) else (bnd2 (f_X12_at1 σ x1 x4) (fun r9 σ10 => chk ((154 : Int32) + r9 < 0 ∨ 179 ≤ ((154 : Int32) + r9).toNatClampNeg) (bnd (x3 + (σ10.2.2.1 600 0 ((154 : Int32) + r9).toNatClampNeg)) (fun v12 => bnd (x4 + 1) (fun v13 => f_X12_timeBy_b5 n σ10 x1 x2 v12 v13))))))))
def f_X12_timeBy (σ : St) (p1 : Int32) (p2 : Int32) : Option (Int32 × St) := f_X12_timeBy_b5 256 σ p1 p2 (0 : Int32) (0 : Int32)
set_option maxHeartbeats 4000000 in
set_option maxRecDepth 100000 in
theorem w_X12_timeBy_b5 {p : Program} {l : Launch} {e : Env} {s : State} {m : MethodId} {args : Array Value} {below : List Frame} {meth : Method} {c : Code} {g : va_G} {ts : ClassId × ClassId × ClassId} {A : Nat → Prop} {Q : State → Prop} {a : Nat → Nat} {r : Int32} {σ' : St} (C : FX p s m args meth c RX12 cX12_timeBy 5 g ts A) (hQ : RetI p l e (rk 1 22) s m args below meth c cX12_timeBy g (WM ts a) A r σ' Q) : ∀ (n : Nat) (σ : St) (x1 : Int32) (x2 : Int32) (x3 : Int32) (x4 : Int32) (H : Heap) (locs : List Loc) (ls : Array Slot), f_X12_timeBy_b5 n σ x1 x2 x3 x4 = some (r, σ') → va_P g classes (WM ts a σ) H → va_D A (WM ts a σ) → va_S A s.heap H locs → lv_has ls 5 [(0, .ref (a 0)), (1, .int x1), (2, .int x2), (3, .int x3), (4, .int x4)] → W p l e (rk 1 22) s m args below meth c H locs 0 0 Q (F0 m 5 ls []) := by
  have hx := C.1
  have hb := C.2.1
  have hown := C.2.2.2.1
  have hts := C.2.2.2.2.1
  intro n
  induction n with
  | zero =>
    intro σ x1 x2 x3 x4 H locs ls hf
    cases hf
  | succ n ih =>
    intro σ x1 x2 x3 x4 H locs ls hf hP hD hS hl
    rw [f_X12_timeBy_b5] at hf
    refine lv_iload hx hb dX12_timeBy_5 (lv_at hl 4 rfl) ?_
    refine lv_aload_n hx hb dX12_timeBy_7 rfl (lv_at hl 0 rfl) ?_
    refine G_X12_longs C hP q_1079 dX12_timeBy_8 ?_
    refine lv_iload_n hx hb dX12_timeBy_11 rfl (lv_at hl 1 rfl) ?_
    obtain ⟨h1, hf⟩ := chk_some hf
    refine AL_X12_longs C hP h1 dX12_timeBy_12 ?_
    refine lv_icmp_ge (tgt := 54) hx hb dX12_timeBy_13 (by decide) (fun c2 => ?_) (fun c2 => ?_)
    · replace hf := ipos c2 hf
      refine lv_iload_n hx hb dX12_timeBy_54 rfl (lv_at hl 3 rfl) ?_
      exact retI hQ hf dX12_timeBy_55 hP hD hS
    · replace hf := ineg c2 hf
      refine lv_iload_n hx hb dX12_timeBy_16 rfl (lv_at hl 3 rfl) ?_
      refine lv_iload_n hx hb dX12_timeBy_17 rfl (lv_at hl 2 rfl) ?_
      refine lv_iload hx hb dX12_timeBy_18 (lv_at hl 4 rfl) ?_
      obtain ⟨r4, h3, hf⟩ := bnd1_some hf
      refine tI [.int x3] C hP hD hS (c_X12_isIn h3) ms_X12_isIn q_1397 dX12_timeBy_20 ⟨Nat.le_of_ble_eq_true rfl, Nat.le_of_ble_eq_true rfl⟩ ⟨Nat.zero_le _, Nat.zero_le _⟩ rfl rfl (Nat.le_of_ble_eq_true rfl) hl.1 (fun H locs hP hD hS => ?_)
      refine lv_if_eq (tgt := 45) hx hb dX12_timeBy_23 (by decide) (fun c5 => ?_) (fun c5 => ?_)
      · replace hf := ipos c5 hf
        refine lv_iconst (v := 1) hx hb dX12_timeBy_45 (by decide) ?_
        refine lv_iadd hx hb dX12_timeBy_46 ?_
        refine lv_topi (fun v6 ev6 => ?_)
        replace hf := bnd_at ev6 hf
        refine lv_istore_n (lv' := [(3, .int v6), (0, .ref (a 0)), (1, .int x1), (2, .int x2), (4, .int x4)]) hx hb dX12_timeBy_47 rfl hl (by decide) rfl (fun ls hl => ?_)
        obtain ⟨v7, ev7⟩ : ∃ z : Int32, z = x4 + 1 := ⟨_, rfl⟩
        replace hf := bnd_at ev7 hf
        refine lv_iinc (v := v7) (lv' := [(4, .int v7), (3, .int v6), (0, .ref (a 0)), (1, .int x1), (2, .int x2)]) hx hb dX12_timeBy_48 hl (k := 4) rfl (by rw [ev7]; rfl) (by decide) rfl (fun ls hl => ?_)
        refine lv_goto (tgt := 5) hx hb dX12_timeBy_51 (by decide) ?_
        exact ih _ _ _ _ _ _ _ _ hf hP hD hS (lv_sub hl [2, 3, 4, 1, 0] rfl)
      · replace hf := ineg c5 hf
        refine lv_aload_n hx hb dX12_timeBy_26 rfl (lv_at hl 0 rfl) ?_
        refine G_X12_may C hP q_1072 dX12_timeBy_27 ?_
        refine lv_sipush (v := 154) hx hb dX12_timeBy_30 (by decide) ?_
        refine lv_aload_n hx hb dX12_timeBy_33 rfl (lv_at hl 0 rfl) ?_
        refine lv_iload_n hx hb dX12_timeBy_34 rfl (lv_at hl 1 rfl) ?_
        refine lv_iload hx hb dX12_timeBy_35 (lv_at hl 4 rfl) ?_
        obtain ⟨r9, σ10, h8, hf⟩ := bnd2_some hf
        refine vI [.int (154 : Int32), .ref (a 1), .int x3] C hP hD hS (c_X12_at1 h8) mv_X12_at1 q_1266 rv_X12 dX12_timeBy_37 ⟨Nat.le_of_ble_eq_true rfl, Nat.le_of_ble_eq_true rfl⟩ ⟨Nat.zero_le _, Nat.zero_le _⟩ rfl rfl (Nat.le_of_ble_eq_true rfl) hl.1 (fun H locs hP hD hS => ?_)
        refine lv_iadd hx hb dX12_timeBy_40 ?_
        obtain ⟨h11, hf⟩ := chk_some hf
        refine AL_X12_may C hP h11 dX12_timeBy_41 ?_
        refine lv_goto (tgt := 46) hx hb dX12_timeBy_42 (by decide) ?_
        refine lv_iadd hx hb dX12_timeBy_46 ?_
        refine lv_topi (fun v12 ev12 => ?_)
        replace hf := bnd_at ev12 hf
        refine lv_istore_n (lv' := [(3, .int v12), (0, .ref (a 0)), (1, .int x1), (2, .int x2), (4, .int x4)]) hx hb dX12_timeBy_47 rfl hl (by decide) rfl (fun ls hl => ?_)
        obtain ⟨v13, ev13⟩ : ∃ z : Int32, z = x4 + 1 := ⟨_, rfl⟩
        replace hf := bnd_at ev13 hf
        refine lv_iinc (v := v13) (lv' := [(4, .int v13), (3, .int v12), (0, .ref (a 0)), (1, .int x1), (2, .int x2)]) hx hb dX12_timeBy_48 hl (k := 4) rfl (by rw [ev13]; rfl) (by decide) rfl (fun ls hl => ?_)
        refine lv_goto (tgt := 5) hx hb dX12_timeBy_51 (by decide) ?_
        exact ih _ _ _ _ _ _ _ _ hf hP hD hS (lv_sub hl [2, 3, 4, 1, 0] rfl)
set_option maxHeartbeats 4000000 in
set_option maxRecDepth 100000 in
theorem c_X12_timeBy {l : Launch} {g : va_G} {ts : ClassId × ClassId × ClassId} {a : Nat → Nat} {σ : St} {p1 : Int32} {p2 : Int32} {r : Int32} {σ' : St} (hf : f_X12_timeBy σ p1 p2 = some (r, σ')) : ConI l g ts (WM ts a) yX12_timeBy cX12_timeBy 5 (some .int) (rk 1 22) σ [.ref (a 0), .int p1, .int p2] r σ' := by
  refine ConI_mk .int rfl rfl rfl rfl (by decide) (Nat.le_of_ble_eq_true rfl) ?_
  intro p e s m below meth c A Q ls C hQ hP hD hS hl
  have C : FX p s m _ meth c RX12 cX12_timeBy 5 g ts A := C
  have hx := C.1
  have hb := C.2.1
  have hown := C.2.2.2.1
  have hts := C.2.2.2.2.1
  have hl : lv_has ls 5 [(0, .ref (a 0)), (1, .int p1), (2, .int p2)] := hl
  rw [f_X12_timeBy] at hf
  refine lv_iconst (v := 0) hx hb dX12_timeBy_0 (by decide) ?_
  refine lv_istore_n (lv' := [(3, .int (0 : Int32)), (0, .ref (a 0)), (1, .int p1), (2, .int p2)]) hx hb dX12_timeBy_1 rfl hl (by decide) rfl (fun ls hl => ?_)
  refine lv_iconst (v := 0) hx hb dX12_timeBy_2 (by decide) ?_
  refine lv_istore (lv' := [(4, .int (0 : Int32)), (3, .int (0 : Int32)), (0, .ref (a 0)), (1, .int p1), (2, .int p2)]) hx hb dX12_timeBy_3 hl (by decide) rfl (fun ls hl => ?_)
  exact w_X12_timeBy_b5 C hQ 256 _ _ _ _ _ _ _ _ hf hP hD hS (lv_sub hl [2, 3, 4, 1, 0] rfl)
theorem dX12_isSet_0 : decode cX12_isSet 0 = .ok (.aload_n 0, 1) := by decide +kernel
theorem dX12_isSet_1 : decode cX12_isSet 1 = .ok (.iload_n 1, 1) := by decide +kernel
theorem dX12_isSet_2 : decode cX12_isSet 2 = .ok (.invokevirtual 116, 3) := by decide +kernel
theorem dX12_isSet_5 : decode cX12_isSet 5 = .ok (.ifCond .eq 27, 3) := by decide +kernel
theorem dX12_isSet_8 : decode cX12_isSet 8 = .ok (.iload_n 2, 1) := by decide +kernel
theorem dX12_isSet_9 : decode cX12_isSet 9 = .ok (.i2l, 1) := by decide +kernel
theorem dX12_isSet_10 : decode cX12_isSet 10 = .ok (.lconst 0, 1) := by decide +kernel
theorem dX12_isSet_11 : decode cX12_isSet 11 = .ok (.iconst 1, 1) := by decide +kernel
theorem dX12_isSet_12 : decode cX12_isSet 12 = .ok (.aload_n 0, 1) := by decide +kernel
theorem dX12_isSet_13 : decode cX12_isSet 13 = .ok (.getfield 24, 3) := by decide +kernel
theorem dX12_isSet_16 : decode cX12_isSet 16 = .ok (.iload_n 1, 1) := by decide +kernel
theorem dX12_isSet_17 : decode cX12_isSet 17 = .ok (.iaload, 1) := by decide +kernel
theorem dX12_isSet_18 : decode cX12_isSet 18 = .ok (.ishl, 1) := by decide +kernel
theorem dX12_isSet_19 : decode cX12_isSet 19 = .ok (.iconst 1, 1) := by decide +kernel
theorem dX12_isSet_20 : decode cX12_isSet 20 = .ok (.isub, 1) := by decide +kernel
theorem dX12_isSet_21 : decode cX12_isSet 21 = .ok (.i2l, 1) := by decide +kernel
theorem dX12_isSet_22 : decode cX12_isSet 22 = .ok (.invokestatic 91, 3) := by decide +kernel
theorem dX12_isSet_25 : decode cX12_isSet 25 = .ok (.ifCond .eq 7, 3) := by decide +kernel
theorem dX12_isSet_28 : decode cX12_isSet 28 = .ok (.iconst 1, 1) := by decide +kernel
theorem dX12_isSet_29 : decode cX12_isSet 29 = .ok (.goto 4, 3) := by decide +kernel
theorem dX12_isSet_32 : decode cX12_isSet 32 = .ok (.iconst 0, 1) := by decide +kernel
theorem dX12_isSet_33 : decode cX12_isSet 33 = .ok (.ireturn, 1) := by decide +kernel
def f_X12_isSet0 (σ : St) (p1 : Int32) (p2 : Int32) : Option (Int32 × St) := bnd2 (f_X12_isName σ p1) (fun r2 σ3 => if r2 = 0 then (some ((0 : Int32), σ3)) else (chk (p1 < 0 ∨ 10 ≤ p1.toNatClampNeg) (bnd1 (f_X12_within ((p2 : Int32).toInt64) (0 : Int64) (((((1 : Int32) <<< ((σ3.2.2.1 607 0 p1.toNatClampNeg) &&& 31)) - (1 : Int32)) : Int32).toInt64)) (fun r7 => if r7 = 0 then (some ((0 : Int32), σ3)) else (some ((1 : Int32), σ3))))))
def f_X12_isSet (σ : St) (p1 : Int32) (p2 : Int32) : Option (Int32 × St) := chkB (f_X12_isSet0 σ p1 p2)
set_option maxHeartbeats 4000000 in
set_option maxRecDepth 100000 in
theorem c_X12_isSet {l : Launch} {g : va_G} {ts : ClassId × ClassId × ClassId} {a : Nat → Nat} {σ : St} {p1 : Int32} {p2 : Int32} {r : Int32} {σ' : St} (hf : f_X12_isSet σ p1 p2 = some (r, σ')) : ConI l g ts (WM ts a) yX12_isSet cX12_isSet 3 (some .boolean) (rk 2 46) σ [.ref (a 0), .int p1, .int p2] r σ' := by
  rw [f_X12_isSet] at hf
  obtain ⟨hf, hn⟩ := chkB_some hf
  refine ConI_mk .boolean rfl hn rfl rfl (by decide) (Nat.le_of_ble_eq_true rfl) ?_
  intro p e s m below meth c A Q ls C hQ hP hD hS hl
  have C : FX p s m _ meth c RX12 cX12_isSet 3 g ts A := C
  have hx := C.1
  have hb := C.2.1
  have hown := C.2.2.2.1
  have hts := C.2.2.2.2.1
  have hl : lv_has ls 3 [(0, .ref (a 0)), (1, .int p1), (2, .int p2)] := hl
  rw [f_X12_isSet0] at hf
  refine lv_aload_n hx hb dX12_isSet_0 rfl (lv_at hl 0 rfl) ?_
  refine lv_iload_n hx hb dX12_isSet_1 rfl (lv_at hl 1 rfl) ?_
  obtain ⟨r2, σ3, h1, hf⟩ := bnd2_some hf
  refine vI [] C hP hD hS (c_X12_isName h1) mv_X12_isName q_1242 rv_X12 dX12_isSet_2 ⟨Nat.le_of_ble_eq_true rfl, Nat.le_of_ble_eq_true rfl⟩ ⟨Nat.zero_le _, Nat.zero_le _⟩ rfl rfl (Nat.le_of_ble_eq_true rfl) hl.1 (fun H locs hP hD hS => ?_)
  refine lv_if_eq (tgt := 32) hx hb dX12_isSet_5 (by decide) (fun c4 => ?_) (fun c4 => ?_)
  · replace hf := ipos c4 hf
    refine lv_iconst (v := 0) hx hb dX12_isSet_32 (by decide) ?_
    exact retI hQ hf dX12_isSet_33 hP hD hS
  · replace hf := ineg c4 hf
    refine lv_iload_n hx hb dX12_isSet_8 rfl (lv_at hl 2 rfl) ?_
    refine lv_i2l (v := (p2 : Int32).toInt64) hx hb dX12_isSet_9 rfl ?_
    refine lv_lconst (v := 0) hx hb dX12_isSet_10 (by decide) ?_
    refine lv_iconst (v := 1) hx hb dX12_isSet_11 (by decide) ?_
    refine lv_aload_n hx hb dX12_isSet_12 rfl (lv_at hl 0 rfl) ?_
    refine G_X12_longs C hP q_1079 dX12_isSet_13 ?_
    refine lv_iload_n hx hb dX12_isSet_16 rfl (lv_at hl 1 rfl) ?_
    obtain ⟨h5, hf⟩ := chk_some hf
    refine AL_X12_longs C hP h5 dX12_isSet_17 ?_
    refine lv_ishl hx hb dX12_isSet_18 ?_
    refine lv_iconst (v := 1) hx hb dX12_isSet_19 (by decide) ?_
    refine lv_isub hx hb dX12_isSet_20 ?_
    refine lv_i2l (v := ((((1 : Int32) <<< ((σ3.2.2.1 607 0 p1.toNatClampNeg) &&& 31)) - (1 : Int32)) : Int32).toInt64) hx hb dX12_isSet_21 rfl ?_
    obtain ⟨r7, h6, hf⟩ := bnd1_some hf
    refine tI [] C hP hD hS (c_X12_within h6) ms_X12_within q_1218 dX12_isSet_22 ⟨Nat.le_of_ble_eq_true rfl, Nat.le_of_ble_eq_true rfl⟩ ⟨Nat.zero_le _, Nat.zero_le _⟩ rfl rfl (Nat.le_of_ble_eq_true rfl) hl.1 (fun H locs hP hD hS => ?_)
    refine lv_if_eq (tgt := 32) hx hb dX12_isSet_25 (by decide) (fun c8 => ?_) (fun c8 => ?_)
    · replace hf := ipos c8 hf
      refine lv_iconst (v := 0) hx hb dX12_isSet_32 (by decide) ?_
      exact retI hQ hf dX12_isSet_33 hP hD hS
    · replace hf := ineg c8 hf
      refine lv_iconst (v := 1) hx hb dX12_isSet_28 (by decide) ?_
      refine lv_goto (tgt := 33) hx hb dX12_isSet_29 (by decide) ?_
      exact retI hQ hf dX12_isSet_33 hP hD hS
theorem dX12_right_0 : decode cX12_right 0 = .ok (.aload_n 0, 1) := by decide +kernel
theorem dX12_right_1 : decode cX12_right 1 = .ok (.iload_n 1, 1) := by decide +kernel
theorem dX12_right_2 : decode cX12_right 2 = .ok (.iload_n 2, 1) := by decide +kernel
theorem dX12_right_3 : decode cX12_right 3 = .ok (.invokevirtual 238, 3) := by decide +kernel
theorem dX12_right_6 : decode cX12_right 6 = .ok (.ifCond .eq 35, 3) := by decide +kernel
theorem dX12_right_9 : decode cX12_right 9 = .ok (.iload_n 3, 1) := by decide +kernel
theorem dX12_right_10 : decode cX12_right 10 = .ok (.i2l, 1) := by decide +kernel
theorem dX12_right_11 : decode cX12_right 11 = .ok (.lconst 0, 1) := by decide +kernel
theorem dX12_right_12 : decode cX12_right 12 = .ok (.lconst 1, 1) := by decide +kernel
theorem dX12_right_13 : decode cX12_right 13 = .ok (.invokestatic 91, 3) := by decide +kernel
theorem dX12_right_16 : decode cX12_right 16 = .ok (.ifCond .eq 25, 3) := by decide +kernel
theorem dX12_right_19 : decode cX12_right 19 = .ok (.aload_n 0, 1) := by decide +kernel
theorem dX12_right_20 : decode cX12_right 20 = .ok (.iload_n 1, 1) := by decide +kernel
theorem dX12_right_21 : decode cX12_right 21 = .ok (.iload_n 2, 1) := by decide +kernel
theorem dX12_right_22 : decode cX12_right 22 = .ok (.invokevirtual 241, 3) := by decide +kernel
theorem dX12_right_25 : decode cX12_right 25 = .ok (.aload_n 0, 1) := by decide +kernel
theorem dX12_right_26 : decode cX12_right 26 = .ok (.getfield 24, 3) := by decide +kernel
theorem dX12_right_29 : decode cX12_right 29 = .ok (.iload_n 1, 1) := by decide +kernel
theorem dX12_right_30 : decode cX12_right 30 = .ok (.iaload, 1) := by decide +kernel
theorem dX12_right_31 : decode cX12_right 31 = .ok (.invokestatic 244, 3) := by decide +kernel
theorem dX12_right_34 : decode cX12_right 34 = .ok (.iload_n 3, 1) := by decide +kernel
theorem dX12_right_35 : decode cX12_right 35 = .ok (.invokestatic 202, 3) := by decide +kernel
theorem dX12_right_38 : decode cX12_right 38 = .ok (.goto 6, 3) := by decide +kernel
theorem dX12_right_41 : decode cX12_right 41 = .ok (.ldc2_w 200, 3) := by decide +kernel
theorem dX12_right_44 : decode cX12_right 44 = .ok (.lreturn, 1) := by decide +kernel
def f_X12_right (σ : St) (p1 : Int32) (p2 : Int32) (p3 : Int32) : Option (Int64 × St) := bnd2 (f_X12_isSet σ p1 p2) (fun r2 σ3 => if r2 = 0 then (some ((-9223372036854775808 : Int64), σ3)) else (bnd1 (f_X12_within ((p3 : Int32).toInt64) (0 : Int64) (1 : Int64)) (fun r6 => if r6 = 0 then (some ((-9223372036854775808 : Int64), σ3)) else (bnd2 (f_X12_rightBy σ3 p1 p2) (fun r9 σ10 => chk (p1 < 0 ∨ 10 ≤ p1.toNatClampNeg) (bnd1 (f_X12_powerOf (σ10.2.2.1 607 0 p1.toNatClampNeg)) (fun r13 => bnd1 (f_X12_partOf r9 r13 p3) (fun r15 => some (r15, σ10)))))))))
set_option maxHeartbeats 4000000 in
set_option maxRecDepth 100000 in
theorem c_X12_right {l : Launch} {g : va_G} {ts : ClassId × ClassId × ClassId} {a : Nat → Nat} {σ : St} {p1 : Int32} {p2 : Int32} {p3 : Int32} {r : Int64} {σ' : St} (hf : f_X12_right σ p1 p2 p3 = some (r, σ')) : ConL l g ts (WM ts a) yX12_right cX12_right 4 (some .long) (rk 102 2210) σ [.ref (a 0), .int p1, .int p2, .int p3] r σ' := by
  refine ConL_mk rfl rfl (by decide) (Nat.le_of_ble_eq_true rfl) ?_
  intro p e s m below meth c A Q ls C hQ hP hD hS hl
  have C : FX p s m _ meth c RX12 cX12_right 4 g ts A := C
  have hx := C.1
  have hb := C.2.1
  have hown := C.2.2.2.1
  have hts := C.2.2.2.2.1
  have hl : lv_has ls 4 [(0, .ref (a 0)), (1, .int p1), (2, .int p2), (3, .int p3)] := hl
  rw [f_X12_right] at hf
  refine lv_aload_n hx hb dX12_right_0 rfl (lv_at hl 0 rfl) ?_
  refine lv_iload_n hx hb dX12_right_1 rfl (lv_at hl 1 rfl) ?_
  refine lv_iload_n hx hb dX12_right_2 rfl (lv_at hl 2 rfl) ?_
  obtain ⟨r2, σ3, h1, hf⟩ := bnd2_some hf
  refine vI [] C hP hD hS (c_X12_isSet h1) mv_X12_isSet q_1389 rv_X12 dX12_right_3 ⟨Nat.le_of_ble_eq_true rfl, Nat.le_of_ble_eq_true rfl⟩ ⟨Nat.zero_le _, Nat.zero_le _⟩ rfl rfl (Nat.le_of_ble_eq_true rfl) hl.1 (fun H locs hP hD hS => ?_)
  refine lv_if_eq (tgt := 41) hx hb dX12_right_6 (by decide) (fun c4 => ?_) (fun c4 => ?_)
  · replace hf := ipos c4 hf
    refine lv_ldc2 hx hb hown (hts _ q_1326) dX12_right_41 ?_
    exact retL hQ hf dX12_right_44 hP hD hS
  · replace hf := ineg c4 hf
    refine lv_iload_n hx hb dX12_right_9 rfl (lv_at hl 3 rfl) ?_
    refine lv_i2l (v := (p3 : Int32).toInt64) hx hb dX12_right_10 rfl ?_
    refine lv_lconst (v := 0) hx hb dX12_right_11 (by decide) ?_
    refine lv_lconst (v := 1) hx hb dX12_right_12 (by decide) ?_
    obtain ⟨r6, h5, hf⟩ := bnd1_some hf
    refine tI [] C hP hD hS (c_X12_within h5) ms_X12_within q_1218 dX12_right_13 ⟨Nat.le_of_ble_eq_true rfl, Nat.le_of_ble_eq_true rfl⟩ ⟨Nat.zero_le _, Nat.zero_le _⟩ rfl rfl (Nat.le_of_ble_eq_true rfl) hl.1 (fun H locs hP hD hS => ?_)
    refine lv_if_eq (tgt := 41) hx hb dX12_right_16 (by decide) (fun c7 => ?_) (fun c7 => ?_)
    · replace hf := ipos c7 hf
      refine lv_ldc2 hx hb hown (hts _ q_1326) dX12_right_41 ?_
      exact retL hQ hf dX12_right_44 hP hD hS
    · replace hf := ineg c7 hf
      refine lv_aload_n hx hb dX12_right_19 rfl (lv_at hl 0 rfl) ?_
      refine lv_iload_n hx hb dX12_right_20 rfl (lv_at hl 1 rfl) ?_
      refine lv_iload_n hx hb dX12_right_21 rfl (lv_at hl 2 rfl) ?_
      obtain ⟨r9, σ10, h8, hf⟩ := bnd2_some hf
      refine vL [] C hP hD hS (c_X12_rightBy h8) mv_X12_rightBy q_1393 rv_X12 dX12_right_22 ⟨Nat.le_of_ble_eq_true rfl, Nat.le_of_ble_eq_true rfl⟩ ⟨Nat.zero_le _, Nat.zero_le _⟩ rfl rfl (Nat.le_of_ble_eq_true rfl) hl.1 (fun H locs hP hD hS => ?_)
      refine lv_aload_n hx hb dX12_right_25 rfl (lv_at hl 0 rfl) ?_
      refine G_X12_longs C hP q_1079 dX12_right_26 ?_
      refine lv_iload_n hx hb dX12_right_29 rfl (lv_at hl 1 rfl) ?_
      obtain ⟨h11, hf⟩ := chk_some hf
      refine AL_X12_longs C hP h11 dX12_right_30 ?_
      obtain ⟨r13, h12, hf⟩ := bnd1_some hf
      refine tL [.long r9] C hP hD hS (c_X12_powerOf h12) ms_X12_powerOf q_1400 dX12_right_31 ⟨Nat.le_of_ble_eq_true rfl, Nat.le_of_ble_eq_true rfl⟩ ⟨Nat.zero_le _, Nat.zero_le _⟩ rfl rfl (Nat.le_of_ble_eq_true rfl) hl.1 (fun H locs hP hD hS => ?_)
      refine lv_iload_n hx hb dX12_right_34 rfl (lv_at hl 3 rfl) ?_
      obtain ⟨r15, h14, hf⟩ := bnd1_some hf
      refine tL [] C hP hD hS (c_X12_partOf h14) ms_X12_partOf q_1331 dX12_right_35 ⟨Nat.le_of_ble_eq_true rfl, Nat.le_of_ble_eq_true rfl⟩ ⟨Nat.zero_le _, Nat.zero_le _⟩ rfl rfl (Nat.le_of_ble_eq_true rfl) hl.1 (fun H locs hP hD hS => ?_)
      refine lv_goto (tgt := 44) hx hb dX12_right_38 (by decide) ?_
      exact retL hQ hf dX12_right_44 hP hD hS
theorem dX12_time_0 : decode cX12_time 0 = .ok (.aload_n 0, 1) := by decide +kernel
theorem dX12_time_1 : decode cX12_time 1 = .ok (.iload_n 1, 1) := by decide +kernel
theorem dX12_time_2 : decode cX12_time 2 = .ok (.iload_n 2, 1) := by decide +kernel
theorem dX12_time_3 : decode cX12_time 3 = .ok (.invokevirtual 238, 3) := by decide +kernel
theorem dX12_time_6 : decode cX12_time 6 = .ok (.ifCond .eq 12, 3) := by decide +kernel
theorem dX12_time_9 : decode cX12_time 9 = .ok (.aload_n 0, 1) := by decide +kernel
theorem dX12_time_10 : decode cX12_time 10 = .ok (.iload_n 1, 1) := by decide +kernel
theorem dX12_time_11 : decode cX12_time 11 = .ok (.iload_n 2, 1) := by decide +kernel
theorem dX12_time_12 : decode cX12_time 12 = .ok (.invokevirtual 247, 3) := by decide +kernel
theorem dX12_time_15 : decode cX12_time 15 = .ok (.goto 4, 3) := by decide +kernel
theorem dX12_time_18 : decode cX12_time 18 = .ok (.iconst (-1), 1) := by decide +kernel
theorem dX12_time_19 : decode cX12_time 19 = .ok (.ireturn, 1) := by decide +kernel
def f_X12_time (σ : St) (p1 : Int32) (p2 : Int32) : Option (Int32 × St) := bnd2 (f_X12_isSet σ p1 p2) (fun r2 σ3 => if r2 = 0 then (some ((-1 : Int32), σ3)) else (bnd2 (f_X12_timeBy σ3 p1 p2) (fun r6 σ7 => some (r6, σ7))))
set_option maxHeartbeats 4000000 in
set_option maxRecDepth 100000 in
theorem c_X12_time {l : Launch} {g : va_G} {ts : ClassId × ClassId × ClassId} {a : Nat → Nat} {σ : St} {p1 : Int32} {p2 : Int32} {r : Int32} {σ' : St} (hf : f_X12_time σ p1 p2 = some (r, σ')) : ConI l g ts (WM ts a) yX12_time cX12_time 3 (some .int) (rk 3 68) σ [.ref (a 0), .int p1, .int p2] r σ' := by
  refine ConI_mk .int rfl rfl rfl rfl (by decide) (Nat.le_of_ble_eq_true rfl) ?_
  intro p e s m below meth c A Q ls C hQ hP hD hS hl
  have C : FX p s m _ meth c RX12 cX12_time 3 g ts A := C
  have hx := C.1
  have hb := C.2.1
  have hown := C.2.2.2.1
  have hts := C.2.2.2.2.1
  have hl : lv_has ls 3 [(0, .ref (a 0)), (1, .int p1), (2, .int p2)] := hl
  rw [f_X12_time] at hf
  refine lv_aload_n hx hb dX12_time_0 rfl (lv_at hl 0 rfl) ?_
  refine lv_iload_n hx hb dX12_time_1 rfl (lv_at hl 1 rfl) ?_
  refine lv_iload_n hx hb dX12_time_2 rfl (lv_at hl 2 rfl) ?_
  obtain ⟨r2, σ3, h1, hf⟩ := bnd2_some hf
  refine vI [] C hP hD hS (c_X12_isSet h1) mv_X12_isSet q_1389 rv_X12 dX12_time_3 ⟨Nat.le_of_ble_eq_true rfl, Nat.le_of_ble_eq_true rfl⟩ ⟨Nat.zero_le _, Nat.zero_le _⟩ rfl rfl (Nat.le_of_ble_eq_true rfl) hl.1 (fun H locs hP hD hS => ?_)
  refine lv_if_eq (tgt := 18) hx hb dX12_time_6 (by decide) (fun c4 => ?_) (fun c4 => ?_)
  · replace hf := ipos c4 hf
    refine lv_iconst (v := -1) hx hb dX12_time_18 (by decide) ?_
    exact retI hQ hf dX12_time_19 hP hD hS
  · replace hf := ineg c4 hf
    refine lv_aload_n hx hb dX12_time_9 rfl (lv_at hl 0 rfl) ?_
    refine lv_iload_n hx hb dX12_time_10 rfl (lv_at hl 1 rfl) ?_
    refine lv_iload_n hx hb dX12_time_11 rfl (lv_at hl 2 rfl) ?_
    obtain ⟨r6, σ7, h5, hf⟩ := bnd2_some hf
    refine vI [] C hP hD hS (c_X12_timeBy h5) mv_X12_timeBy q_1407 rv_X12 dX12_time_12 ⟨Nat.le_of_ble_eq_true rfl, Nat.le_of_ble_eq_true rfl⟩ ⟨Nat.zero_le _, Nat.zero_le _⟩ rfl rfl (Nat.le_of_ble_eq_true rfl) hl.1 (fun H locs hP hD hS => ?_)
    refine lv_goto (tgt := 19) hx hb dX12_time_15 (by decide) ?_
    exact retI hQ hf dX12_time_19 hP hD hS
theorem dX12_leastSaid_0 : decode cX12_leastSaid 0 = .ok (.aload_n 0, 1) := by decide +kernel
theorem dX12_leastSaid_1 : decode cX12_leastSaid 1 = .ok (.iload_n 1, 1) := by decide +kernel
theorem dX12_leastSaid_2 : decode cX12_leastSaid 2 = .ok (.invokevirtual 116, 3) := by decide +kernel
theorem dX12_leastSaid_5 : decode cX12_leastSaid 5 = .ok (.ifCond .eq 15, 3) := by decide +kernel
theorem dX12_leastSaid_8 : decode cX12_leastSaid 8 = .ok (.iload_n 2, 1) := by decide +kernel
theorem dX12_leastSaid_9 : decode cX12_leastSaid 9 = .ok (.i2l, 1) := by decide +kernel
theorem dX12_leastSaid_10 : decode cX12_leastSaid 10 = .ok (.lconst 0, 1) := by decide +kernel
theorem dX12_leastSaid_11 : decode cX12_leastSaid 11 = .ok (.ldc2_w 89, 3) := by decide +kernel
theorem dX12_leastSaid_14 : decode cX12_leastSaid 14 = .ok (.invokestatic 91, 3) := by decide +kernel
theorem dX12_leastSaid_17 : decode cX12_leastSaid 17 = .ok (.ifCond .ne 5, 3) := by decide +kernel
theorem dX12_leastSaid_20 : decode cX12_leastSaid 20 = .ok (.iconst (-1), 1) := by decide +kernel
theorem dX12_leastSaid_21 : decode cX12_leastSaid 21 = .ok (.ireturn, 1) := by decide +kernel
theorem dX12_leastSaid_22 : decode cX12_leastSaid 22 = .ok (.bipush (-2), 2) := by decide +kernel
theorem dX12_leastSaid_24 : decode cX12_leastSaid 24 = .ok (.istore_n 3, 1) := by decide +kernel
theorem dX12_leastSaid_25 : decode cX12_leastSaid 25 = .ok (.iconst 0, 1) := by decide +kernel
theorem dX12_leastSaid_26 : decode cX12_leastSaid 26 = .ok (.istore 4, 2) := by decide +kernel
theorem dX12_leastSaid_28 : decode cX12_leastSaid 28 = .ok (.iload 4, 2) := by decide +kernel
theorem dX12_leastSaid_30 : decode cX12_leastSaid 30 = .ok (.iconst 1, 1) := by decide +kernel
theorem dX12_leastSaid_31 : decode cX12_leastSaid 31 = .ok (.aload_n 0, 1) := by decide +kernel
theorem dX12_leastSaid_32 : decode cX12_leastSaid 32 = .ok (.getfield 24, 3) := by decide +kernel
theorem dX12_leastSaid_35 : decode cX12_leastSaid 35 = .ok (.iload_n 1, 1) := by decide +kernel
theorem dX12_leastSaid_36 : decode cX12_leastSaid 36 = .ok (.iaload, 1) := by decide +kernel
theorem dX12_leastSaid_37 : decode cX12_leastSaid 37 = .ok (.ishl, 1) := by decide +kernel
theorem dX12_leastSaid_38 : decode cX12_leastSaid 38 = .ok (.if_icmp .ge 63, 3) := by decide +kernel
theorem dX12_leastSaid_41 : decode cX12_leastSaid 41 = .ok (.ldc2_w 129, 3) := by decide +kernel
theorem dX12_leastSaid_44 : decode cX12_leastSaid 44 = .ok (.aload_n 0, 1) := by decide +kernel
theorem dX12_leastSaid_45 : decode cX12_leastSaid 45 = .ok (.iload_n 1, 1) := by decide +kernel
theorem dX12_leastSaid_46 : decode cX12_leastSaid 46 = .ok (.iload 4, 2) := by decide +kernel
theorem dX12_leastSaid_48 : decode cX12_leastSaid 48 = .ok (.invokevirtual 241, 3) := by decide +kernel
theorem dX12_leastSaid_51 : decode cX12_leastSaid 51 = .ok (.lmul, 1) := by decide +kernel
theorem dX12_leastSaid_52 : decode cX12_leastSaid 52 = .ok (.iload_n 2, 1) := by decide +kernel
theorem dX12_leastSaid_53 : decode cX12_leastSaid 53 = .ok (.i2l, 1) := by decide +kernel
theorem dX12_leastSaid_54 : decode cX12_leastSaid 54 = .ok (.aload_n 0, 1) := by decide +kernel
theorem dX12_leastSaid_55 : decode cX12_leastSaid 55 = .ok (.getfield 24, 3) := by decide +kernel
theorem dX12_leastSaid_58 : decode cX12_leastSaid 58 = .ok (.iload_n 1, 1) := by decide +kernel
theorem dX12_leastSaid_59 : decode cX12_leastSaid 59 = .ok (.iaload, 1) := by decide +kernel
theorem dX12_leastSaid_60 : decode cX12_leastSaid 60 = .ok (.invokestatic 244, 3) := by decide +kernel
theorem dX12_leastSaid_63 : decode cX12_leastSaid 63 = .ok (.lmul, 1) := by decide +kernel
theorem dX12_leastSaid_64 : decode cX12_leastSaid 64 = .ok (.lcmp, 1) := by decide +kernel
theorem dX12_leastSaid_65 : decode cX12_leastSaid 65 = .ok (.ifCond .le 30, 3) := by decide +kernel
theorem dX12_leastSaid_68 : decode cX12_leastSaid 68 = .ok (.iload_n 3, 1) := by decide +kernel
theorem dX12_leastSaid_69 : decode cX12_leastSaid 69 = .ok (.ifCond .lt 19, 3) := by decide +kernel
theorem dX12_leastSaid_72 : decode cX12_leastSaid 72 = .ok (.aload_n 0, 1) := by decide +kernel
theorem dX12_leastSaid_73 : decode cX12_leastSaid 73 = .ok (.iload_n 1, 1) := by decide +kernel
theorem dX12_leastSaid_74 : decode cX12_leastSaid 74 = .ok (.iload 4, 2) := by decide +kernel
theorem dX12_leastSaid_76 : decode cX12_leastSaid 76 = .ok (.invokevirtual 247, 3) := by decide +kernel
theorem dX12_leastSaid_79 : decode cX12_leastSaid 79 = .ok (.aload_n 0, 1) := by decide +kernel
theorem dX12_leastSaid_80 : decode cX12_leastSaid 80 = .ok (.iload_n 1, 1) := by decide +kernel
theorem dX12_leastSaid_81 : decode cX12_leastSaid 81 = .ok (.iload_n 3, 1) := by decide +kernel
theorem dX12_leastSaid_82 : decode cX12_leastSaid 82 = .ok (.invokevirtual 247, 3) := by decide +kernel
theorem dX12_leastSaid_85 : decode cX12_leastSaid 85 = .ok (.if_icmp .ge 8, 3) := by decide +kernel
theorem dX12_leastSaid_88 : decode cX12_leastSaid 88 = .ok (.iload 4, 2) := by decide +kernel
theorem dX12_leastSaid_90 : decode cX12_leastSaid 90 = .ok (.goto 4, 3) := by decide +kernel
theorem dX12_leastSaid_93 : decode cX12_leastSaid 93 = .ok (.iload_n 3, 1) := by decide +kernel
theorem dX12_leastSaid_94 : decode cX12_leastSaid 94 = .ok (.istore_n 3, 1) := by decide +kernel
theorem dX12_leastSaid_95 : decode cX12_leastSaid 95 = .ok (.iinc 4 1, 3) := by decide +kernel
theorem dX12_leastSaid_98 : decode cX12_leastSaid 98 = .ok (.goto (-70), 3) := by decide +kernel
theorem dX12_leastSaid_101 : decode cX12_leastSaid 101 = .ok (.iload_n 3, 1) := by decide +kernel
theorem dX12_leastSaid_102 : decode cX12_leastSaid 102 = .ok (.ireturn, 1) := by decide +kernel
def f_X12_leastSaid_b28 : Nat → St → Int32 → Int32 → Int32 → Int32 → Option (Int32 × St)
  | 0, _, _, _, _, _ => none
  | n + 1, σ, x1, x2, x3, x4 => chk (x1 < 0 ∨ 10 ≤ x1.toNatClampNeg) (if (1 : Int32) <<< ((σ.2.2.1 607 0 x1.toNatClampNeg) &&& 31) ≤ x4 then (some (x3, σ)) else (bnd2 (f_X12_rightBy σ x1 x4) (fun r11 σ12 => chk (x1 < 0 ∨ 10 ≤ x1.toNatClampNeg) (bnd1 (f_X12_powerOf (σ12.2.2.1 607 0 x1.toNatClampNeg)) (fun r15 => if (12 : Int64) * r11 ≤ ((x2 : Int32).toInt64) * r15 then (bnd (x4 + 1) (fun v17 => f_X12_leastSaid_b28 n σ12 x1 x2 x3 v17)) else (if x3 < 0 then (bnd (x4 + 1) (fun v19 => f_X12_leastSaid_b28 n σ12 x1 x2 x4 v19)) else (bnd2 (f_X12_timeBy σ12 x1 x4) (fun r21 σ22 => bnd2 (f_X12_timeBy σ22 x1 x3) (fun r24 σ25 => if r24 ≤ r21 then (bnd (x4 + 1) (fun v27 => f_X12_leastSaid_b28 n σ25 x1 x2 x3 v27)) else (bnd (x4 + 1) (fun v28 => f_X12_leastSaid_b28 n σ25 x1 x2 x4 v28)))))))))))
def f_X12_leastSaid (σ : St) (p1 : Int32) (p2 : Int32) : Option (Int32 × St) := bnd2 (f_X12_isName σ p1) (fun r2 σ3 => if r2 = 0 then (some ((-1 : Int32), σ3)) else (bnd1 (f_X12_within ((p2 : Int32).toInt64) (0 : Int64) (11 : Int64)) (fun r6 => if r6 = 0 then (some ((-1 : Int32), σ3)) else (f_X12_leastSaid_b28 256 σ3 p1 p2 (-2 : Int32) (0 : Int32)))))
set_option maxHeartbeats 4000000 in
set_option maxRecDepth 100000 in
theorem w_X12_leastSaid_b28 {p : Program} {l : Launch} {e : Env} {s : State} {m : MethodId} {args : Array Value} {below : List Frame} {meth : Method} {c : Code} {g : va_G} {ts : ClassId × ClassId × ClassId} {A : Nat → Prop} {Q : State → Prop} {a : Nat → Nat} {r : Int32} {σ' : St} (C : FX p s m args meth c RX12 cX12_leastSaid 5 g ts A) (hQ : RetI p l e (rk 102 2210) s m args below meth c cX12_leastSaid g (WM ts a) A r σ' Q) : ∀ (n : Nat) (σ : St) (x1 : Int32) (x2 : Int32) (x3 : Int32) (x4 : Int32) (H : Heap) (locs : List Loc) (ls : Array Slot), f_X12_leastSaid_b28 n σ x1 x2 x3 x4 = some (r, σ') → va_P g classes (WM ts a σ) H → va_D A (WM ts a σ) → va_S A s.heap H locs → lv_has ls 5 [(0, .ref (a 0)), (1, .int x1), (2, .int x2), (3, .int x3), (4, .int x4)] → W p l e (rk 102 2210) s m args below meth c H locs 0 0 Q (F0 m 28 ls []) := by
  have hx := C.1
  have hb := C.2.1
  have hown := C.2.2.2.1
  have hts := C.2.2.2.2.1
  intro n
  induction n with
  | zero =>
    intro σ x1 x2 x3 x4 H locs ls hf
    cases hf
  | succ n ih =>
    intro σ x1 x2 x3 x4 H locs ls hf hP hD hS hl
    rw [f_X12_leastSaid_b28] at hf
    refine lv_iload hx hb dX12_leastSaid_28 (lv_at hl 4 rfl) ?_
    refine lv_iconst (v := 1) hx hb dX12_leastSaid_30 (by decide) ?_
    refine lv_aload_n hx hb dX12_leastSaid_31 rfl (lv_at hl 0 rfl) ?_
    refine G_X12_longs C hP q_1079 dX12_leastSaid_32 ?_
    refine lv_iload_n hx hb dX12_leastSaid_35 rfl (lv_at hl 1 rfl) ?_
    obtain ⟨h8, hf⟩ := chk_some hf
    refine AL_X12_longs C hP h8 dX12_leastSaid_36 ?_
    refine lv_ishl hx hb dX12_leastSaid_37 ?_
    refine lv_icmp_ge (tgt := 101) hx hb dX12_leastSaid_38 (by decide) (fun c9 => ?_) (fun c9 => ?_)
    · replace hf := ipos c9 hf
      refine lv_iload_n hx hb dX12_leastSaid_101 rfl (lv_at hl 3 rfl) ?_
      exact retI hQ hf dX12_leastSaid_102 hP hD hS
    · replace hf := ineg c9 hf
      refine lv_ldc2 hx hb hown (hts _ q_1252) dX12_leastSaid_41 ?_
      refine lv_aload_n hx hb dX12_leastSaid_44 rfl (lv_at hl 0 rfl) ?_
      refine lv_iload_n hx hb dX12_leastSaid_45 rfl (lv_at hl 1 rfl) ?_
      refine lv_iload hx hb dX12_leastSaid_46 (lv_at hl 4 rfl) ?_
      obtain ⟨r11, σ12, h10, hf⟩ := bnd2_some hf
      refine vL [.long (12 : Int64)] C hP hD hS (c_X12_rightBy h10) mv_X12_rightBy q_1393 rv_X12 dX12_leastSaid_48 ⟨Nat.le_of_ble_eq_true rfl, Nat.le_of_ble_eq_true rfl⟩ ⟨Nat.zero_le _, Nat.zero_le _⟩ rfl rfl (Nat.le_of_ble_eq_true rfl) hl.1 (fun H locs hP hD hS => ?_)
      refine lv_lmul hx hb dX12_leastSaid_51 ?_
      refine lv_iload_n hx hb dX12_leastSaid_52 rfl (lv_at hl 2 rfl) ?_
      refine lv_i2l (v := (x2 : Int32).toInt64) hx hb dX12_leastSaid_53 rfl ?_
      refine lv_aload_n hx hb dX12_leastSaid_54 rfl (lv_at hl 0 rfl) ?_
      refine G_X12_longs C hP q_1079 dX12_leastSaid_55 ?_
      refine lv_iload_n hx hb dX12_leastSaid_58 rfl (lv_at hl 1 rfl) ?_
      obtain ⟨h13, hf⟩ := chk_some hf
      refine AL_X12_longs C hP h13 dX12_leastSaid_59 ?_
      obtain ⟨r15, h14, hf⟩ := bnd1_some hf
      refine tL [.long ((x2 : Int32).toInt64), .long ((12 : Int64) * r11)] C hP hD hS (c_X12_powerOf h14) ms_X12_powerOf q_1400 dX12_leastSaid_60 ⟨Nat.le_of_ble_eq_true rfl, Nat.le_of_ble_eq_true rfl⟩ ⟨Nat.zero_le _, Nat.zero_le _⟩ rfl rfl (Nat.le_of_ble_eq_true rfl) hl.1 (fun H locs hP hD hS => ?_)
      refine lv_lmul hx hb dX12_leastSaid_63 ?_
      refine lb_le (tgt := 95) hx hb dX12_leastSaid_64 dX12_leastSaid_65 (by decide) (fun c16 => ?_) (fun c16 => ?_)
      · replace hf := ipos c16 hf
        obtain ⟨v17, ev17⟩ : ∃ z : Int32, z = x4 + 1 := ⟨_, rfl⟩
        replace hf := bnd_at ev17 hf
        refine lv_iinc (v := v17) (lv' := [(4, .int v17), (0, .ref (a 0)), (1, .int x1), (2, .int x2), (3, .int x3)]) hx hb dX12_leastSaid_95 hl (k := 4) rfl (by rw [ev17]; rfl) (by decide) rfl (fun ls hl => ?_)
        refine lv_goto (tgt := 28) hx hb dX12_leastSaid_98 (by decide) ?_
        exact ih _ _ _ _ _ _ _ _ hf hP hD hS (lv_sub hl [1, 2, 3, 4, 0] rfl)
      · replace hf := ineg c16 hf
        refine lv_iload_n hx hb dX12_leastSaid_68 rfl (lv_at hl 3 rfl) ?_
        refine lv_if_lt (tgt := 88) hx hb dX12_leastSaid_69 (by decide) (fun c18 => ?_) (fun c18 => ?_)
        · replace hf := ipos c18 hf
          refine lv_iload hx hb dX12_leastSaid_88 (lv_at hl 4 rfl) ?_
          refine lv_goto (tgt := 94) hx hb dX12_leastSaid_90 (by decide) ?_
          refine lv_istore_n (lv' := [(3, .int x4), (0, .ref (a 0)), (1, .int x1), (2, .int x2), (4, .int x4)]) hx hb dX12_leastSaid_94 rfl hl (by decide) rfl (fun ls hl => ?_)
          obtain ⟨v19, ev19⟩ : ∃ z : Int32, z = x4 + 1 := ⟨_, rfl⟩
          replace hf := bnd_at ev19 hf
          refine lv_iinc (v := v19) (lv' := [(4, .int v19), (3, .int x4), (0, .ref (a 0)), (1, .int x1), (2, .int x2)]) hx hb dX12_leastSaid_95 hl (k := 4) rfl (by rw [ev19]; rfl) (by decide) rfl (fun ls hl => ?_)
          refine lv_goto (tgt := 28) hx hb dX12_leastSaid_98 (by decide) ?_
          exact ih _ _ _ _ _ _ _ _ hf hP hD hS (lv_sub hl [2, 3, 4, 1, 0] rfl)
        · replace hf := ineg c18 hf
          refine lv_aload_n hx hb dX12_leastSaid_72 rfl (lv_at hl 0 rfl) ?_
          refine lv_iload_n hx hb dX12_leastSaid_73 rfl (lv_at hl 1 rfl) ?_
          refine lv_iload hx hb dX12_leastSaid_74 (lv_at hl 4 rfl) ?_
          obtain ⟨r21, σ22, h20, hf⟩ := bnd2_some hf
          refine vI [] C hP hD hS (c_X12_timeBy h20) mv_X12_timeBy q_1407 rv_X12 dX12_leastSaid_76 ⟨Nat.le_of_ble_eq_true rfl, Nat.le_of_ble_eq_true rfl⟩ ⟨Nat.zero_le _, Nat.zero_le _⟩ rfl rfl (Nat.le_of_ble_eq_true rfl) hl.1 (fun H locs hP hD hS => ?_)
          refine lv_aload_n hx hb dX12_leastSaid_79 rfl (lv_at hl 0 rfl) ?_
          refine lv_iload_n hx hb dX12_leastSaid_80 rfl (lv_at hl 1 rfl) ?_
          refine lv_iload_n hx hb dX12_leastSaid_81 rfl (lv_at hl 3 rfl) ?_
          obtain ⟨r24, σ25, h23, hf⟩ := bnd2_some hf
          refine vI [.int r21] C hP hD hS (c_X12_timeBy h23) mv_X12_timeBy q_1407 rv_X12 dX12_leastSaid_82 ⟨Nat.le_of_ble_eq_true rfl, Nat.le_of_ble_eq_true rfl⟩ ⟨Nat.zero_le _, Nat.zero_le _⟩ rfl rfl (Nat.le_of_ble_eq_true rfl) hl.1 (fun H locs hP hD hS => ?_)
          refine lv_icmp_ge (tgt := 93) hx hb dX12_leastSaid_85 (by decide) (fun c26 => ?_) (fun c26 => ?_)
          · replace hf := ipos c26 hf
            refine lv_iload_n hx hb dX12_leastSaid_93 rfl (lv_at hl 3 rfl) ?_
            refine lv_istore_n (lv' := [(3, .int x3), (0, .ref (a 0)), (1, .int x1), (2, .int x2), (4, .int x4)]) hx hb dX12_leastSaid_94 rfl hl (by decide) rfl (fun ls hl => ?_)
            obtain ⟨v27, ev27⟩ : ∃ z : Int32, z = x4 + 1 := ⟨_, rfl⟩
            replace hf := bnd_at ev27 hf
            refine lv_iinc (v := v27) (lv' := [(4, .int v27), (3, .int x3), (0, .ref (a 0)), (1, .int x1), (2, .int x2)]) hx hb dX12_leastSaid_95 hl (k := 4) rfl (by rw [ev27]; rfl) (by decide) rfl (fun ls hl => ?_)
            refine lv_goto (tgt := 28) hx hb dX12_leastSaid_98 (by decide) ?_
            exact ih _ _ _ _ _ _ _ _ hf hP hD hS (lv_sub hl [2, 3, 4, 1, 0] rfl)
          · replace hf := ineg c26 hf
            refine lv_iload hx hb dX12_leastSaid_88 (lv_at hl 4 rfl) ?_
            refine lv_goto (tgt := 94) hx hb dX12_leastSaid_90 (by decide) ?_
            refine lv_istore_n (lv' := [(3, .int x4), (0, .ref (a 0)), (1, .int x1), (2, .int x2), (4, .int x4)]) hx hb dX12_leastSaid_94 rfl hl (by decide) rfl (fun ls hl => ?_)
            obtain ⟨v28, ev28⟩ : ∃ z : Int32, z = x4 + 1 := ⟨_, rfl⟩
            replace hf := bnd_at ev28 hf
            refine lv_iinc (v := v28) (lv' := [(4, .int v28), (3, .int x4), (0, .ref (a 0)), (1, .int x1), (2, .int x2)]) hx hb dX12_leastSaid_95 hl (k := 4) rfl (by rw [ev28]; rfl) (by decide) rfl (fun ls hl => ?_)
            refine lv_goto (tgt := 28) hx hb dX12_leastSaid_98 (by decide) ?_
            exact ih _ _ _ _ _ _ _ _ hf hP hD hS (lv_sub hl [2, 3, 4, 1, 0] rfl)
set_option maxHeartbeats 4000000 in
set_option maxRecDepth 100000 in
theorem c_X12_leastSaid {l : Launch} {g : va_G} {ts : ClassId × ClassId × ClassId} {a : Nat → Nat} {σ : St} {p1 : Int32} {p2 : Int32} {r : Int32} {σ' : St} (hf : f_X12_leastSaid σ p1 p2 = some (r, σ')) : ConI l g ts (WM ts a) yX12_leastSaid cX12_leastSaid 5 (some .int) (rk 102 2210) σ [.ref (a 0), .int p1, .int p2] r σ' := by
  refine ConI_mk .int rfl rfl rfl rfl (by decide) (Nat.le_of_ble_eq_true rfl) ?_
  intro p e s m below meth c A Q ls C hQ hP hD hS hl
  have C : FX p s m _ meth c RX12 cX12_leastSaid 5 g ts A := C
  have hx := C.1
  have hb := C.2.1
  have hown := C.2.2.2.1
  have hts := C.2.2.2.2.1
  have hl : lv_has ls 5 [(0, .ref (a 0)), (1, .int p1), (2, .int p2)] := hl
  rw [f_X12_leastSaid] at hf
  refine lv_aload_n hx hb dX12_leastSaid_0 rfl (lv_at hl 0 rfl) ?_
  refine lv_iload_n hx hb dX12_leastSaid_1 rfl (lv_at hl 1 rfl) ?_
  obtain ⟨r2, σ3, h1, hf⟩ := bnd2_some hf
  refine vI [] C hP hD hS (c_X12_isName h1) mv_X12_isName q_1242 rv_X12 dX12_leastSaid_2 ⟨Nat.le_of_ble_eq_true rfl, Nat.le_of_ble_eq_true rfl⟩ ⟨Nat.zero_le _, Nat.zero_le _⟩ rfl rfl (Nat.le_of_ble_eq_true rfl) hl.1 (fun H locs hP hD hS => ?_)
  refine lv_if_eq (tgt := 20) hx hb dX12_leastSaid_5 (by decide) (fun c4 => ?_) (fun c4 => ?_)
  · replace hf := ipos c4 hf
    refine lv_iconst (v := -1) hx hb dX12_leastSaid_20 (by decide) ?_
    exact retI hQ hf dX12_leastSaid_21 hP hD hS
  · replace hf := ineg c4 hf
    refine lv_iload_n hx hb dX12_leastSaid_8 rfl (lv_at hl 2 rfl) ?_
    refine lv_i2l (v := (p2 : Int32).toInt64) hx hb dX12_leastSaid_9 rfl ?_
    refine lv_lconst (v := 0) hx hb dX12_leastSaid_10 (by decide) ?_
    refine lv_ldc2 hx hb hown (hts _ q_1233) dX12_leastSaid_11 ?_
    obtain ⟨r6, h5, hf⟩ := bnd1_some hf
    refine tI [] C hP hD hS (c_X12_within h5) ms_X12_within q_1218 dX12_leastSaid_14 ⟨Nat.le_of_ble_eq_true rfl, Nat.le_of_ble_eq_true rfl⟩ ⟨Nat.zero_le _, Nat.zero_le _⟩ rfl rfl (Nat.le_of_ble_eq_true rfl) hl.1 (fun H locs hP hD hS => ?_)
    refine lv_if_ne (tgt := 22) hx hb dX12_leastSaid_17 (by decide) (fun c7 => ?_) (fun c7 => ?_)
    · replace hf := ineg c7 hf
      refine lv_bipush (v := -2) hx hb dX12_leastSaid_22 (by decide) ?_
      refine lv_istore_n (lv' := [(3, .int (-2 : Int32)), (0, .ref (a 0)), (1, .int p1), (2, .int p2)]) hx hb dX12_leastSaid_24 rfl hl (by decide) rfl (fun ls hl => ?_)
      refine lv_iconst (v := 0) hx hb dX12_leastSaid_25 (by decide) ?_
      refine lv_istore (lv' := [(4, .int (0 : Int32)), (3, .int (-2 : Int32)), (0, .ref (a 0)), (1, .int p1), (2, .int p2)]) hx hb dX12_leastSaid_26 hl (by decide) rfl (fun ls hl => ?_)
      exact w_X12_leastSaid_b28 C hQ 256 _ _ _ _ _ _ _ _ hf hP hD hS (lv_sub hl [2, 3, 4, 1, 0] rfl)
    · replace hf := ipos c7 hf
      refine lv_iconst (v := -1) hx hb dX12_leastSaid_20 (by decide) ?_
      exact retI hQ hf dX12_leastSaid_21 hP hD hS
theorem dX12_worst_0 : decode cX12_worst 0 = .ok (.aload_n 0, 1) := by decide +kernel
theorem dX12_worst_1 : decode cX12_worst 1 = .ok (.iload_n 1, 1) := by decide +kernel
theorem dX12_worst_2 : decode cX12_worst 2 = .ok (.invokevirtual 116, 3) := by decide +kernel
theorem dX12_worst_5 : decode cX12_worst 5 = .ok (.ifCond .ne 5, 3) := by decide +kernel
theorem dX12_worst_8 : decode cX12_worst 8 = .ok (.iconst (-1), 1) := by decide +kernel
theorem dX12_worst_9 : decode cX12_worst 9 = .ok (.ireturn, 1) := by decide +kernel
theorem dX12_worst_10 : decode cX12_worst 10 = .ok (.iconst 0, 1) := by decide +kernel
theorem dX12_worst_11 : decode cX12_worst 11 = .ok (.istore_n 2, 1) := by decide +kernel
theorem dX12_worst_12 : decode cX12_worst 12 = .ok (.iconst 1, 1) := by decide +kernel
theorem dX12_worst_13 : decode cX12_worst 13 = .ok (.istore_n 3, 1) := by decide +kernel
theorem dX12_worst_14 : decode cX12_worst 14 = .ok (.iload_n 3, 1) := by decide +kernel
theorem dX12_worst_15 : decode cX12_worst 15 = .ok (.aload_n 0, 1) := by decide +kernel
theorem dX12_worst_16 : decode cX12_worst 16 = .ok (.getfield 24, 3) := by decide +kernel
theorem dX12_worst_19 : decode cX12_worst 19 = .ok (.iload_n 1, 1) := by decide +kernel
theorem dX12_worst_20 : decode cX12_worst 20 = .ok (.iaload, 1) := by decide +kernel
theorem dX12_worst_21 : decode cX12_worst 21 = .ok (.if_icmp .ge 54, 3) := by decide +kernel
theorem dX12_worst_24 : decode cX12_worst 24 = .ok (.aload_n 0, 1) := by decide +kernel
theorem dX12_worst_25 : decode cX12_worst 25 = .ok (.aload_n 0, 1) := by decide +kernel
theorem dX12_worst_26 : decode cX12_worst 26 = .ok (.iload_n 1, 1) := by decide +kernel
theorem dX12_worst_27 : decode cX12_worst 27 = .ok (.iload_n 3, 1) := by decide +kernel
theorem dX12_worst_28 : decode cX12_worst 28 = .ok (.invokevirtual 136, 3) := by decide +kernel
theorem dX12_worst_31 : decode cX12_worst 31 = .ok (.aload_n 0, 1) := by decide +kernel
theorem dX12_worst_32 : decode cX12_worst 32 = .ok (.iload_n 1, 1) := by decide +kernel
theorem dX12_worst_33 : decode cX12_worst 33 = .ok (.iload_n 3, 1) := by decide +kernel
theorem dX12_worst_34 : decode cX12_worst 34 = .ok (.invokevirtual 136, 3) := by decide +kernel
theorem dX12_worst_37 : decode cX12_worst 37 = .ok (.i2l, 1) := by decide +kernel
theorem dX12_worst_38 : decode cX12_worst 38 = .ok (.iconst 0, 1) := by decide +kernel
theorem dX12_worst_39 : decode cX12_worst 39 = .ok (.invokevirtual 206, 3) := by decide +kernel
theorem dX12_worst_42 : decode cX12_worst 42 = .ok (.aload_n 0, 1) := by decide +kernel
theorem dX12_worst_43 : decode cX12_worst 43 = .ok (.aload_n 0, 1) := by decide +kernel
theorem dX12_worst_44 : decode cX12_worst 44 = .ok (.iload_n 1, 1) := by decide +kernel
theorem dX12_worst_45 : decode cX12_worst 45 = .ok (.iload_n 2, 1) := by decide +kernel
theorem dX12_worst_46 : decode cX12_worst 46 = .ok (.invokevirtual 136, 3) := by decide +kernel
theorem dX12_worst_49 : decode cX12_worst 49 = .ok (.aload_n 0, 1) := by decide +kernel
theorem dX12_worst_50 : decode cX12_worst 50 = .ok (.iload_n 1, 1) := by decide +kernel
theorem dX12_worst_51 : decode cX12_worst 51 = .ok (.iload_n 2, 1) := by decide +kernel
theorem dX12_worst_52 : decode cX12_worst 52 = .ok (.invokevirtual 136, 3) := by decide +kernel
theorem dX12_worst_55 : decode cX12_worst 55 = .ok (.i2l, 1) := by decide +kernel
theorem dX12_worst_56 : decode cX12_worst 56 = .ok (.iconst 0, 1) := by decide +kernel
theorem dX12_worst_57 : decode cX12_worst 57 = .ok (.invokevirtual 206, 3) := by decide +kernel
theorem dX12_worst_60 : decode cX12_worst 60 = .ok (.if_icmp .ge 7, 3) := by decide +kernel
theorem dX12_worst_63 : decode cX12_worst 63 = .ok (.iload_n 3, 1) := by decide +kernel
theorem dX12_worst_64 : decode cX12_worst 64 = .ok (.goto 4, 3) := by decide +kernel
theorem dX12_worst_67 : decode cX12_worst 67 = .ok (.iload_n 2, 1) := by decide +kernel
theorem dX12_worst_68 : decode cX12_worst 68 = .ok (.istore_n 2, 1) := by decide +kernel
theorem dX12_worst_69 : decode cX12_worst 69 = .ok (.iinc 3 1, 3) := by decide +kernel
theorem dX12_worst_72 : decode cX12_worst 72 = .ok (.goto (-58), 3) := by decide +kernel
theorem dX12_worst_75 : decode cX12_worst 75 = .ok (.iload_n 2, 1) := by decide +kernel
theorem dX12_worst_76 : decode cX12_worst 76 = .ok (.ireturn, 1) := by decide +kernel
def f_X12_worst_b14 : Nat → St → Int32 → Int32 → Int32 → Option (Int32 × St)
  | 0, _, _, _, _ => none
  | n + 1, σ, x1, x2, x3 => chk (x1 < 0 ∨ 10 ≤ x1.toNatClampNeg) (if σ.2.2.1 607 0 x1.toNatClampNeg ≤ x3 then (some (x2, σ)) else (bnd2 (f_X12_at1 σ x1 x3) (fun r8 σ9 => bnd2 (f_X12_at1 σ9 x1 x3) (fun r11 σ12 => bnd2 (f_X12_partOfHeard σ12 r8 ((r11 : Int32).toInt64) (0 : Int32)) (fun r14 σ15 => bnd2 (f_X12_at1 σ15 x1 x2) (fun r17 σ18 => bnd2 (f_X12_at1 σ18 x1 x2) (fun r20 σ21 => bnd2 (f_X12_partOfHeard σ21 r17 ((r20 : Int32).toInt64) (0 : Int32)) (fun r23 σ24 => if r23 ≤ r14 then (bnd (x3 + 1) (fun v26 => f_X12_worst_b14 n σ24 x1 x2 v26)) else (bnd (x3 + 1) (fun v27 => f_X12_worst_b14 n σ24 x1 x3 v27))))))))))
def f_X12_worst (σ : St) (p1 : Int32) : Option (Int32 × St) := bnd2 (f_X12_isName σ p1) (fun r2 σ3 => if r2 = 0 then (some ((-1 : Int32), σ3)) else (f_X12_worst_b14 256 σ3 p1 (0 : Int32) (1 : Int32)))
set_option maxHeartbeats 4000000 in
set_option maxRecDepth 100000 in
theorem w_X12_worst_b14 {p : Program} {l : Launch} {e : Env} {s : State} {m : MethodId} {args : Array Value} {below : List Frame} {meth : Method} {c : Code} {g : va_G} {ts : ClassId × ClassId × ClassId} {A : Nat → Prop} {Q : State → Prop} {a : Nat → Nat} {r : Int32} {σ' : St} (C : FX p s m args meth c RX12 cX12_worst 4 g ts A) (hQ : RetI p l e (rk 101 2182) s m args below meth c cX12_worst g (WM ts a) A r σ' Q) : ∀ (n : Nat) (σ : St) (x1 : Int32) (x2 : Int32) (x3 : Int32) (H : Heap) (locs : List Loc) (ls : Array Slot), f_X12_worst_b14 n σ x1 x2 x3 = some (r, σ') → va_P g classes (WM ts a σ) H → va_D A (WM ts a σ) → va_S A s.heap H locs → lv_has ls 4 [(0, .ref (a 0)), (1, .int x1), (2, .int x2), (3, .int x3)] → W p l e (rk 101 2182) s m args below meth c H locs 0 0 Q (F0 m 14 ls []) := by
  have hx := C.1
  have hb := C.2.1
  have hown := C.2.2.2.1
  have hts := C.2.2.2.2.1
  intro n
  induction n with
  | zero =>
    intro σ x1 x2 x3 H locs ls hf
    cases hf
  | succ n ih =>
    intro σ x1 x2 x3 H locs ls hf hP hD hS hl
    rw [f_X12_worst_b14] at hf
    refine lv_iload_n hx hb dX12_worst_14 rfl (lv_at hl 3 rfl) ?_
    refine lv_aload_n hx hb dX12_worst_15 rfl (lv_at hl 0 rfl) ?_
    refine G_X12_longs C hP q_1079 dX12_worst_16 ?_
    refine lv_iload_n hx hb dX12_worst_19 rfl (lv_at hl 1 rfl) ?_
    obtain ⟨h5, hf⟩ := chk_some hf
    refine AL_X12_longs C hP h5 dX12_worst_20 ?_
    refine lv_icmp_ge (tgt := 75) hx hb dX12_worst_21 (by decide) (fun c6 => ?_) (fun c6 => ?_)
    · replace hf := ipos c6 hf
      refine lv_iload_n hx hb dX12_worst_75 rfl (lv_at hl 2 rfl) ?_
      exact retI hQ hf dX12_worst_76 hP hD hS
    · replace hf := ineg c6 hf
      refine lv_aload_n hx hb dX12_worst_24 rfl (lv_at hl 0 rfl) ?_
      refine lv_aload_n hx hb dX12_worst_25 rfl (lv_at hl 0 rfl) ?_
      refine lv_iload_n hx hb dX12_worst_26 rfl (lv_at hl 1 rfl) ?_
      refine lv_iload_n hx hb dX12_worst_27 rfl (lv_at hl 3 rfl) ?_
      obtain ⟨r8, σ9, h7, hf⟩ := bnd2_some hf
      refine vI [.ref (a 0)] C hP hD hS (c_X12_at1 h7) mv_X12_at1 q_1266 rv_X12 dX12_worst_28 ⟨Nat.le_of_ble_eq_true rfl, Nat.le_of_ble_eq_true rfl⟩ ⟨Nat.zero_le _, Nat.zero_le _⟩ rfl rfl (Nat.le_of_ble_eq_true rfl) hl.1 (fun H locs hP hD hS => ?_)
      refine lv_aload_n hx hb dX12_worst_31 rfl (lv_at hl 0 rfl) ?_
      refine lv_iload_n hx hb dX12_worst_32 rfl (lv_at hl 1 rfl) ?_
      refine lv_iload_n hx hb dX12_worst_33 rfl (lv_at hl 3 rfl) ?_
      obtain ⟨r11, σ12, h10, hf⟩ := bnd2_some hf
      refine vI [.int r8, .ref (a 0)] C hP hD hS (c_X12_at1 h10) mv_X12_at1 q_1266 rv_X12 dX12_worst_34 ⟨Nat.le_of_ble_eq_true rfl, Nat.le_of_ble_eq_true rfl⟩ ⟨Nat.zero_le _, Nat.zero_le _⟩ rfl rfl (Nat.le_of_ble_eq_true rfl) hl.1 (fun H locs hP hD hS => ?_)
      refine lv_i2l (v := (r11 : Int32).toInt64) hx hb dX12_worst_37 rfl ?_
      refine lv_iconst (v := 0) hx hb dX12_worst_38 (by decide) ?_
      obtain ⟨r14, σ15, h13, hf⟩ := bnd2_some hf
      refine vI [] C hP hD hS (c_X12_partOfHeard h13) mv_X12_partOfHeard q_1349 rv_X12 dX12_worst_39 ⟨Nat.le_of_ble_eq_true rfl, Nat.le_of_ble_eq_true rfl⟩ ⟨Nat.zero_le _, Nat.zero_le _⟩ rfl rfl (Nat.le_of_ble_eq_true rfl) hl.1 (fun H locs hP hD hS => ?_)
      refine lv_aload_n hx hb dX12_worst_42 rfl (lv_at hl 0 rfl) ?_
      refine lv_aload_n hx hb dX12_worst_43 rfl (lv_at hl 0 rfl) ?_
      refine lv_iload_n hx hb dX12_worst_44 rfl (lv_at hl 1 rfl) ?_
      refine lv_iload_n hx hb dX12_worst_45 rfl (lv_at hl 2 rfl) ?_
      obtain ⟨r17, σ18, h16, hf⟩ := bnd2_some hf
      refine vI [.ref (a 0), .int r14] C hP hD hS (c_X12_at1 h16) mv_X12_at1 q_1266 rv_X12 dX12_worst_46 ⟨Nat.le_of_ble_eq_true rfl, Nat.le_of_ble_eq_true rfl⟩ ⟨Nat.zero_le _, Nat.zero_le _⟩ rfl rfl (Nat.le_of_ble_eq_true rfl) hl.1 (fun H locs hP hD hS => ?_)
      refine lv_aload_n hx hb dX12_worst_49 rfl (lv_at hl 0 rfl) ?_
      refine lv_iload_n hx hb dX12_worst_50 rfl (lv_at hl 1 rfl) ?_
      refine lv_iload_n hx hb dX12_worst_51 rfl (lv_at hl 2 rfl) ?_
      obtain ⟨r20, σ21, h19, hf⟩ := bnd2_some hf
      refine vI [.int r17, .ref (a 0), .int r14] C hP hD hS (c_X12_at1 h19) mv_X12_at1 q_1266 rv_X12 dX12_worst_52 ⟨Nat.le_of_ble_eq_true rfl, Nat.le_of_ble_eq_true rfl⟩ ⟨Nat.zero_le _, Nat.zero_le _⟩ rfl rfl (Nat.le_of_ble_eq_true rfl) hl.1 (fun H locs hP hD hS => ?_)
      refine lv_i2l (v := (r20 : Int32).toInt64) hx hb dX12_worst_55 rfl ?_
      refine lv_iconst (v := 0) hx hb dX12_worst_56 (by decide) ?_
      obtain ⟨r23, σ24, h22, hf⟩ := bnd2_some hf
      refine vI [.int r14] C hP hD hS (c_X12_partOfHeard h22) mv_X12_partOfHeard q_1349 rv_X12 dX12_worst_57 ⟨Nat.le_of_ble_eq_true rfl, Nat.le_of_ble_eq_true rfl⟩ ⟨Nat.zero_le _, Nat.zero_le _⟩ rfl rfl (Nat.le_of_ble_eq_true rfl) hl.1 (fun H locs hP hD hS => ?_)
      refine lv_icmp_ge (tgt := 67) hx hb dX12_worst_60 (by decide) (fun c25 => ?_) (fun c25 => ?_)
      · replace hf := ipos c25 hf
        refine lv_iload_n hx hb dX12_worst_67 rfl (lv_at hl 2 rfl) ?_
        refine lv_istore_n (lv' := [(2, .int x2), (0, .ref (a 0)), (1, .int x1), (3, .int x3)]) hx hb dX12_worst_68 rfl hl (by decide) rfl (fun ls hl => ?_)
        obtain ⟨v26, ev26⟩ : ∃ z : Int32, z = x3 + 1 := ⟨_, rfl⟩
        replace hf := bnd_at ev26 hf
        refine lv_iinc (v := v26) (lv' := [(3, .int v26), (2, .int x2), (0, .ref (a 0)), (1, .int x1)]) hx hb dX12_worst_69 hl (k := 3) rfl (by rw [ev26]; rfl) (by decide) rfl (fun ls hl => ?_)
        refine lv_goto (tgt := 14) hx hb dX12_worst_72 (by decide) ?_
        exact ih _ _ _ _ _ _ _ hf hP hD hS (lv_sub hl [2, 3, 1, 0] rfl)
      · replace hf := ineg c25 hf
        refine lv_iload_n hx hb dX12_worst_63 rfl (lv_at hl 3 rfl) ?_
        refine lv_goto (tgt := 68) hx hb dX12_worst_64 (by decide) ?_
        refine lv_istore_n (lv' := [(2, .int x3), (0, .ref (a 0)), (1, .int x1), (3, .int x3)]) hx hb dX12_worst_68 rfl hl (by decide) rfl (fun ls hl => ?_)
        obtain ⟨v27, ev27⟩ : ∃ z : Int32, z = x3 + 1 := ⟨_, rfl⟩
        replace hf := bnd_at ev27 hf
        refine lv_iinc (v := v27) (lv' := [(3, .int v27), (2, .int x3), (0, .ref (a 0)), (1, .int x1)]) hx hb dX12_worst_69 hl (k := 3) rfl (by rw [ev27]; rfl) (by decide) rfl (fun ls hl => ?_)
        refine lv_goto (tgt := 14) hx hb dX12_worst_72 (by decide) ?_
        exact ih _ _ _ _ _ _ _ hf hP hD hS (lv_sub hl [2, 3, 1, 0] rfl)
set_option maxHeartbeats 4000000 in
set_option maxRecDepth 100000 in
theorem c_X12_worst {l : Launch} {g : va_G} {ts : ClassId × ClassId × ClassId} {a : Nat → Nat} {σ : St} {p1 : Int32} {r : Int32} {σ' : St} (hf : f_X12_worst σ p1 = some (r, σ')) : ConI l g ts (WM ts a) yX12_worst cX12_worst 4 (some .int) (rk 101 2182) σ [.ref (a 0), .int p1] r σ' := by
  refine ConI_mk .int rfl rfl rfl rfl (by decide) (Nat.le_of_ble_eq_true rfl) ?_
  intro p e s m below meth c A Q ls C hQ hP hD hS hl
  have C : FX p s m _ meth c RX12 cX12_worst 4 g ts A := C
  have hx := C.1
  have hb := C.2.1
  have hown := C.2.2.2.1
  have hts := C.2.2.2.2.1
  have hl : lv_has ls 4 [(0, .ref (a 0)), (1, .int p1)] := hl
  rw [f_X12_worst] at hf
  refine lv_aload_n hx hb dX12_worst_0 rfl (lv_at hl 0 rfl) ?_
  refine lv_iload_n hx hb dX12_worst_1 rfl (lv_at hl 1 rfl) ?_
  obtain ⟨r2, σ3, h1, hf⟩ := bnd2_some hf
  refine vI [] C hP hD hS (c_X12_isName h1) mv_X12_isName q_1242 rv_X12 dX12_worst_2 ⟨Nat.le_of_ble_eq_true rfl, Nat.le_of_ble_eq_true rfl⟩ ⟨Nat.zero_le _, Nat.zero_le _⟩ rfl rfl (Nat.le_of_ble_eq_true rfl) hl.1 (fun H locs hP hD hS => ?_)
  refine lv_if_ne (tgt := 10) hx hb dX12_worst_5 (by decide) (fun c4 => ?_) (fun c4 => ?_)
  · replace hf := ineg c4 hf
    refine lv_iconst (v := 0) hx hb dX12_worst_10 (by decide) ?_
    refine lv_istore_n (lv' := [(2, .int (0 : Int32)), (0, .ref (a 0)), (1, .int p1)]) hx hb dX12_worst_11 rfl hl (by decide) rfl (fun ls hl => ?_)
    refine lv_iconst (v := 1) hx hb dX12_worst_12 (by decide) ?_
    refine lv_istore_n (lv' := [(3, .int (1 : Int32)), (2, .int (0 : Int32)), (0, .ref (a 0)), (1, .int p1)]) hx hb dX12_worst_13 rfl hl (by decide) rfl (fun ls hl => ?_)
    exact w_X12_worst_b14 C hQ 256 _ _ _ _ _ _ _ hf hP hD hS (lv_sub hl [2, 3, 1, 0] rfl)
  · replace hf := ipos c4 hf
    refine lv_iconst (v := -1) hx hb dX12_worst_8 (by decide) ?_
    exact retI hQ hf dX12_worst_9 hP hD hS
theorem dX12_areTwo_0 : decode cX12_areTwo 0 = .ok (.aload_n 0, 1) := by decide +kernel
theorem dX12_areTwo_1 : decode cX12_areTwo 1 = .ok (.iload_n 1, 1) := by decide +kernel
theorem dX12_areTwo_2 : decode cX12_areTwo 2 = .ok (.invokevirtual 116, 3) := by decide +kernel
theorem dX12_areTwo_5 : decode cX12_areTwo 5 = .ok (.ifCond .eq 35, 3) := by decide +kernel
theorem dX12_areTwo_8 : decode cX12_areTwo 8 = .ok (.aload_n 0, 1) := by decide +kernel
theorem dX12_areTwo_9 : decode cX12_areTwo 9 = .ok (.iload_n 2, 1) := by decide +kernel
theorem dX12_areTwo_10 : decode cX12_areTwo 10 = .ok (.invokevirtual 116, 3) := by decide +kernel
theorem dX12_areTwo_13 : decode cX12_areTwo 13 = .ok (.ifCond .eq 27, 3) := by decide +kernel
theorem dX12_areTwo_16 : decode cX12_areTwo 16 = .ok (.iload_n 1, 1) := by decide +kernel
theorem dX12_areTwo_17 : decode cX12_areTwo 17 = .ok (.iload_n 2, 1) := by decide +kernel
theorem dX12_areTwo_18 : decode cX12_areTwo 18 = .ok (.if_icmp .eq 22, 3) := by decide +kernel
theorem dX12_areTwo_21 : decode cX12_areTwo 21 = .ok (.aload_n 0, 1) := by decide +kernel
theorem dX12_areTwo_22 : decode cX12_areTwo 22 = .ok (.getfield 24, 3) := by decide +kernel
theorem dX12_areTwo_25 : decode cX12_areTwo 25 = .ok (.iload_n 1, 1) := by decide +kernel
theorem dX12_areTwo_26 : decode cX12_areTwo 26 = .ok (.iaload, 1) := by decide +kernel
theorem dX12_areTwo_27 : decode cX12_areTwo 27 = .ok (.aload_n 0, 1) := by decide +kernel
theorem dX12_areTwo_28 : decode cX12_areTwo 28 = .ok (.getfield 24, 3) := by decide +kernel
theorem dX12_areTwo_31 : decode cX12_areTwo 31 = .ok (.iload_n 2, 1) := by decide +kernel
theorem dX12_areTwo_32 : decode cX12_areTwo 32 = .ok (.iaload, 1) := by decide +kernel
theorem dX12_areTwo_33 : decode cX12_areTwo 33 = .ok (.if_icmp .ne 7, 3) := by decide +kernel
theorem dX12_areTwo_36 : decode cX12_areTwo 36 = .ok (.iconst 1, 1) := by decide +kernel
theorem dX12_areTwo_37 : decode cX12_areTwo 37 = .ok (.goto 4, 3) := by decide +kernel
theorem dX12_areTwo_40 : decode cX12_areTwo 40 = .ok (.iconst 0, 1) := by decide +kernel
theorem dX12_areTwo_41 : decode cX12_areTwo 41 = .ok (.ireturn, 1) := by decide +kernel
def f_X12_areTwo0 (σ : St) (p1 : Int32) (p2 : Int32) : Option (Int32 × St) := bnd2 (f_X12_isName σ p1) (fun r2 σ3 => if r2 = 0 then (some ((0 : Int32), σ3)) else (bnd2 (f_X12_isName σ3 p2) (fun r6 σ7 => if r6 = 0 then (some ((0 : Int32), σ7)) else (if p1 = p2 then (some ((0 : Int32), σ7)) else (chk (p1 < 0 ∨ 10 ≤ p1.toNatClampNeg) (chk (p2 < 0 ∨ 10 ≤ p2.toNatClampNeg) (if σ7.2.2.1 607 0 p1.toNatClampNeg = σ7.2.2.1 607 0 p2.toNatClampNeg then (some ((1 : Int32), σ7)) else (some ((0 : Int32), σ7)))))))))
def f_X12_areTwo (σ : St) (p1 : Int32) (p2 : Int32) : Option (Int32 × St) := chkB (f_X12_areTwo0 σ p1 p2)
set_option maxHeartbeats 4000000 in
set_option maxRecDepth 100000 in
theorem c_X12_areTwo {l : Launch} {g : va_G} {ts : ClassId × ClassId × ClassId} {a : Nat → Nat} {σ : St} {p1 : Int32} {p2 : Int32} {r : Int32} {σ' : St} (hf : f_X12_areTwo σ p1 p2 = some (r, σ')) : ConI l g ts (WM ts a) yX12_areTwo cX12_areTwo 3 (some .boolean) (rk 2 46) σ [.ref (a 0), .int p1, .int p2] r σ' := by
  rw [f_X12_areTwo] at hf
  obtain ⟨hf, hn⟩ := chkB_some hf
  refine ConI_mk .boolean rfl hn rfl rfl (by decide) (Nat.le_of_ble_eq_true rfl) ?_
  intro p e s m below meth c A Q ls C hQ hP hD hS hl
  have C : FX p s m _ meth c RX12 cX12_areTwo 3 g ts A := C
  have hx := C.1
  have hb := C.2.1
  have hown := C.2.2.2.1
  have hts := C.2.2.2.2.1
  have hl : lv_has ls 3 [(0, .ref (a 0)), (1, .int p1), (2, .int p2)] := hl
  rw [f_X12_areTwo0] at hf
  refine lv_aload_n hx hb dX12_areTwo_0 rfl (lv_at hl 0 rfl) ?_
  refine lv_iload_n hx hb dX12_areTwo_1 rfl (lv_at hl 1 rfl) ?_
  obtain ⟨r2, σ3, h1, hf⟩ := bnd2_some hf
  refine vI [] C hP hD hS (c_X12_isName h1) mv_X12_isName q_1242 rv_X12 dX12_areTwo_2 ⟨Nat.le_of_ble_eq_true rfl, Nat.le_of_ble_eq_true rfl⟩ ⟨Nat.zero_le _, Nat.zero_le _⟩ rfl rfl (Nat.le_of_ble_eq_true rfl) hl.1 (fun H locs hP hD hS => ?_)
  refine lv_if_eq (tgt := 40) hx hb dX12_areTwo_5 (by decide) (fun c4 => ?_) (fun c4 => ?_)
  · replace hf := ipos c4 hf
    refine lv_iconst (v := 0) hx hb dX12_areTwo_40 (by decide) ?_
    exact retI hQ hf dX12_areTwo_41 hP hD hS
  · replace hf := ineg c4 hf
    refine lv_aload_n hx hb dX12_areTwo_8 rfl (lv_at hl 0 rfl) ?_
    refine lv_iload_n hx hb dX12_areTwo_9 rfl (lv_at hl 2 rfl) ?_
    obtain ⟨r6, σ7, h5, hf⟩ := bnd2_some hf
    refine vI [] C hP hD hS (c_X12_isName h5) mv_X12_isName q_1242 rv_X12 dX12_areTwo_10 ⟨Nat.le_of_ble_eq_true rfl, Nat.le_of_ble_eq_true rfl⟩ ⟨Nat.zero_le _, Nat.zero_le _⟩ rfl rfl (Nat.le_of_ble_eq_true rfl) hl.1 (fun H locs hP hD hS => ?_)
    refine lv_if_eq (tgt := 40) hx hb dX12_areTwo_13 (by decide) (fun c8 => ?_) (fun c8 => ?_)
    · replace hf := ipos c8 hf
      refine lv_iconst (v := 0) hx hb dX12_areTwo_40 (by decide) ?_
      exact retI hQ hf dX12_areTwo_41 hP hD hS
    · replace hf := ineg c8 hf
      refine lv_iload_n hx hb dX12_areTwo_16 rfl (lv_at hl 1 rfl) ?_
      refine lv_iload_n hx hb dX12_areTwo_17 rfl (lv_at hl 2 rfl) ?_
      refine lv_icmp_eq (tgt := 40) hx hb dX12_areTwo_18 (by decide) (fun c9 => ?_) (fun c9 => ?_)
      · replace hf := ipos c9 hf
        refine lv_iconst (v := 0) hx hb dX12_areTwo_40 (by decide) ?_
        exact retI hQ hf dX12_areTwo_41 hP hD hS
      · replace hf := ineg c9 hf
        refine lv_aload_n hx hb dX12_areTwo_21 rfl (lv_at hl 0 rfl) ?_
        refine G_X12_longs C hP q_1079 dX12_areTwo_22 ?_
        refine lv_iload_n hx hb dX12_areTwo_25 rfl (lv_at hl 1 rfl) ?_
        obtain ⟨h10, hf⟩ := chk_some hf
        refine AL_X12_longs C hP h10 dX12_areTwo_26 ?_
        refine lv_aload_n hx hb dX12_areTwo_27 rfl (lv_at hl 0 rfl) ?_
        refine G_X12_longs C hP q_1079 dX12_areTwo_28 ?_
        refine lv_iload_n hx hb dX12_areTwo_31 rfl (lv_at hl 2 rfl) ?_
        obtain ⟨h11, hf⟩ := chk_some hf
        refine AL_X12_longs C hP h11 dX12_areTwo_32 ?_
        refine lv_icmp_ne (tgt := 40) hx hb dX12_areTwo_33 (by decide) (fun c12 => ?_) (fun c12 => ?_)
        · replace hf := ineg c12 hf
          refine lv_iconst (v := 0) hx hb dX12_areTwo_40 (by decide) ?_
          exact retI hQ hf dX12_areTwo_41 hP hD hS
        · replace hf := ipos c12 hf
          refine lv_iconst (v := 1) hx hb dX12_areTwo_36 (by decide) ?_
          refine lv_goto (tgt := 41) hx hb dX12_areTwo_37 (by decide) ?_
          exact retI hQ hf dX12_areTwo_41 hP hD hS
theorem dX12_heardAs_0 : decode cX12_heardAs 0 = .ok (.lconst 1, 1) := by decide +kernel
theorem dX12_heardAs_1 : decode cX12_heardAs 1 = .ok (.lstore_n 3, 1) := by decide +kernel
theorem dX12_heardAs_2 : decode cX12_heardAs 2 = .ok (.iconst 0, 1) := by decide +kernel
theorem dX12_heardAs_3 : decode cX12_heardAs 3 = .ok (.istore 5, 2) := by decide +kernel
theorem dX12_heardAs_5 : decode cX12_heardAs 5 = .ok (.iload 5, 2) := by decide +kernel
theorem dX12_heardAs_7 : decode cX12_heardAs 7 = .ok (.aload_n 0, 1) := by decide +kernel
theorem dX12_heardAs_8 : decode cX12_heardAs 8 = .ok (.getfield 24, 3) := by decide +kernel
theorem dX12_heardAs_11 : decode cX12_heardAs 11 = .ok (.iload_n 1, 1) := by decide +kernel
theorem dX12_heardAs_12 : decode cX12_heardAs 12 = .ok (.iaload, 1) := by decide +kernel
theorem dX12_heardAs_13 : decode cX12_heardAs 13 = .ok (.if_icmp .ge 33, 3) := by decide +kernel
theorem dX12_heardAs_16 : decode cX12_heardAs 16 = .ok (.lload_n 3, 1) := by decide +kernel
theorem dX12_heardAs_17 : decode cX12_heardAs 17 = .ok (.aload_n 0, 1) := by decide +kernel
theorem dX12_heardAs_18 : decode cX12_heardAs 18 = .ok (.aload_n 0, 1) := by decide +kernel
theorem dX12_heardAs_19 : decode cX12_heardAs 19 = .ok (.iload_n 1, 1) := by decide +kernel
theorem dX12_heardAs_20 : decode cX12_heardAs 20 = .ok (.iload 5, 2) := by decide +kernel
theorem dX12_heardAs_22 : decode cX12_heardAs 22 = .ok (.invokevirtual 136, 3) := by decide +kernel
theorem dX12_heardAs_25 : decode cX12_heardAs 25 = .ok (.aload_n 0, 1) := by decide +kernel
theorem dX12_heardAs_26 : decode cX12_heardAs 26 = .ok (.iload_n 2, 1) := by decide +kernel
theorem dX12_heardAs_27 : decode cX12_heardAs 27 = .ok (.iload 5, 2) := by decide +kernel
theorem dX12_heardAs_29 : decode cX12_heardAs 29 = .ok (.invokevirtual 136, 3) := by decide +kernel
theorem dX12_heardAs_32 : decode cX12_heardAs 32 = .ok (.i2l, 1) := by decide +kernel
theorem dX12_heardAs_33 : decode cX12_heardAs 33 = .ok (.iconst 0, 1) := by decide +kernel
theorem dX12_heardAs_34 : decode cX12_heardAs 34 = .ok (.invokevirtual 206, 3) := by decide +kernel
theorem dX12_heardAs_37 : decode cX12_heardAs 37 = .ok (.i2l, 1) := by decide +kernel
theorem dX12_heardAs_38 : decode cX12_heardAs 38 = .ok (.lmul, 1) := by decide +kernel
theorem dX12_heardAs_39 : decode cX12_heardAs 39 = .ok (.lstore_n 3, 1) := by decide +kernel
theorem dX12_heardAs_40 : decode cX12_heardAs 40 = .ok (.iinc 5 1, 3) := by decide +kernel
theorem dX12_heardAs_43 : decode cX12_heardAs 43 = .ok (.goto (-38), 3) := by decide +kernel
theorem dX12_heardAs_46 : decode cX12_heardAs 46 = .ok (.lload_n 3, 1) := by decide +kernel
theorem dX12_heardAs_47 : decode cX12_heardAs 47 = .ok (.lreturn, 1) := by decide +kernel
def f_X12_heardAs_b5 : Nat → St → Int32 → Int32 → Int64 → Int32 → Option (Int64 × St)
  | 0, _, _, _, _, _ => none
  | n + 1, σ, x1, x2, x3, x5 => chk (x1 < 0 ∨ 10 ≤ x1.toNatClampNeg) (if σ.2.2.1 607 0 x1.toNatClampNeg ≤ x5 then (some (x3, σ)) else (bnd2 (f_X12_at1 σ x1 x5) (fun r4 σ5 => bnd2 (f_X12_at1 σ5 x2 x5) (fun r7 σ8 => bnd2 (f_X12_partOfHeard σ8 r4 ((r7 : Int32).toInt64) (0 : Int32)) (fun r10 σ11 => bnd (x3 * ((r10 : Int32).toInt64)) (fun v12 => bnd (x5 + 1) (fun v13 => f_X12_heardAs_b5 n σ11 x1 x2 v12 v13)))))))
def f_X12_heardAs (σ : St) (p1 : Int32) (p2 : Int32) : Option (Int64 × St) := f_X12_heardAs_b5 256 σ p1 p2 (1 : Int64) (0 : Int32)
set_option maxHeartbeats 4000000 in
set_option maxRecDepth 100000 in
theorem w_X12_heardAs_b5 {p : Program} {l : Launch} {e : Env} {s : State} {m : MethodId} {args : Array Value} {below : List Frame} {meth : Method} {c : Code} {g : va_G} {ts : ClassId × ClassId × ClassId} {A : Nat → Prop} {Q : State → Prop} {a : Nat → Nat} {r : Int64} {σ' : St} (C : FX p s m args meth c RX12 cX12_heardAs 6 g ts A) (hQ : RetL p l e (rk 101 2182) s m args below meth c cX12_heardAs g (WM ts a) A r σ' Q) : ∀ (n : Nat) (σ : St) (x1 : Int32) (x2 : Int32) (x3 : Int64) (x5 : Int32) (H : Heap) (locs : List Loc) (ls : Array Slot), f_X12_heardAs_b5 n σ x1 x2 x3 x5 = some (r, σ') → va_P g classes (WM ts a σ) H → va_D A (WM ts a σ) → va_S A s.heap H locs → lv_has ls 6 [(0, .ref (a 0)), (1, .int x1), (2, .int x2), (3, .long x3), (5, .int x5)] → W p l e (rk 101 2182) s m args below meth c H locs 0 0 Q (F0 m 5 ls []) := by
  have hx := C.1
  have hb := C.2.1
  have hown := C.2.2.2.1
  have hts := C.2.2.2.2.1
  intro n
  induction n with
  | zero =>
    intro σ x1 x2 x3 x5 H locs ls hf
    cases hf
  | succ n ih =>
    intro σ x1 x2 x3 x5 H locs ls hf hP hD hS hl
    rw [f_X12_heardAs_b5] at hf
    refine lv_iload hx hb dX12_heardAs_5 (lv_at hl 4 rfl) ?_
    refine lv_aload_n hx hb dX12_heardAs_7 rfl (lv_at hl 0 rfl) ?_
    refine G_X12_longs C hP q_1079 dX12_heardAs_8 ?_
    refine lv_iload_n hx hb dX12_heardAs_11 rfl (lv_at hl 1 rfl) ?_
    obtain ⟨h1, hf⟩ := chk_some hf
    refine AL_X12_longs C hP h1 dX12_heardAs_12 ?_
    refine lv_icmp_ge (tgt := 46) hx hb dX12_heardAs_13 (by decide) (fun c2 => ?_) (fun c2 => ?_)
    · replace hf := ipos c2 hf
      refine lv_lload_n hx hb dX12_heardAs_46 rfl (lv_at hl 3 rfl) ?_
      exact retL hQ hf dX12_heardAs_47 hP hD hS
    · replace hf := ineg c2 hf
      refine lv_lload_n hx hb dX12_heardAs_16 rfl (lv_at hl 3 rfl) ?_
      refine lv_aload_n hx hb dX12_heardAs_17 rfl (lv_at hl 0 rfl) ?_
      refine lv_aload_n hx hb dX12_heardAs_18 rfl (lv_at hl 0 rfl) ?_
      refine lv_iload_n hx hb dX12_heardAs_19 rfl (lv_at hl 1 rfl) ?_
      refine lv_iload hx hb dX12_heardAs_20 (lv_at hl 4 rfl) ?_
      obtain ⟨r4, σ5, h3, hf⟩ := bnd2_some hf
      refine vI [.ref (a 0), .long x3] C hP hD hS (c_X12_at1 h3) mv_X12_at1 q_1266 rv_X12 dX12_heardAs_22 ⟨Nat.le_of_ble_eq_true rfl, Nat.le_of_ble_eq_true rfl⟩ ⟨Nat.zero_le _, Nat.zero_le _⟩ rfl rfl (Nat.le_of_ble_eq_true rfl) hl.1 (fun H locs hP hD hS => ?_)
      refine lv_aload_n hx hb dX12_heardAs_25 rfl (lv_at hl 0 rfl) ?_
      refine lv_iload_n hx hb dX12_heardAs_26 rfl (lv_at hl 2 rfl) ?_
      refine lv_iload hx hb dX12_heardAs_27 (lv_at hl 4 rfl) ?_
      obtain ⟨r7, σ8, h6, hf⟩ := bnd2_some hf
      refine vI [.int r4, .ref (a 0), .long x3] C hP hD hS (c_X12_at1 h6) mv_X12_at1 q_1266 rv_X12 dX12_heardAs_29 ⟨Nat.le_of_ble_eq_true rfl, Nat.le_of_ble_eq_true rfl⟩ ⟨Nat.zero_le _, Nat.zero_le _⟩ rfl rfl (Nat.le_of_ble_eq_true rfl) hl.1 (fun H locs hP hD hS => ?_)
      refine lv_i2l (v := (r7 : Int32).toInt64) hx hb dX12_heardAs_32 rfl ?_
      refine lv_iconst (v := 0) hx hb dX12_heardAs_33 (by decide) ?_
      obtain ⟨r10, σ11, h9, hf⟩ := bnd2_some hf
      refine vI [.long x3] C hP hD hS (c_X12_partOfHeard h9) mv_X12_partOfHeard q_1349 rv_X12 dX12_heardAs_34 ⟨Nat.le_of_ble_eq_true rfl, Nat.le_of_ble_eq_true rfl⟩ ⟨Nat.zero_le _, Nat.zero_le _⟩ rfl rfl (Nat.le_of_ble_eq_true rfl) hl.1 (fun H locs hP hD hS => ?_)
      refine lv_i2l (v := (r10 : Int32).toInt64) hx hb dX12_heardAs_37 rfl ?_
      refine lv_lmul hx hb dX12_heardAs_38 ?_
      refine lv_topl (fun v12 ev12 => ?_)
      replace hf := bnd_at ev12 hf
      refine lv_lstore_n (lv' := [(3, .long v12), (0, .ref (a 0)), (1, .int x1), (2, .int x2), (5, .int x5)]) hx hb dX12_heardAs_39 rfl hl (by decide) rfl (fun ls hl => ?_)
      obtain ⟨v13, ev13⟩ : ∃ z : Int32, z = x5 + 1 := ⟨_, rfl⟩
      replace hf := bnd_at ev13 hf
      refine lv_iinc (v := v13) (lv' := [(5, .int v13), (3, .long v12), (0, .ref (a 0)), (1, .int x1), (2, .int x2)]) hx hb dX12_heardAs_40 hl (k := 4) rfl (by rw [ev13]; rfl) (by decide) rfl (fun ls hl => ?_)
      refine lv_goto (tgt := 5) hx hb dX12_heardAs_43 (by decide) ?_
      exact ih _ _ _ _ _ _ _ _ hf hP hD hS (lv_sub hl [2, 3, 4, 1, 0] rfl)
set_option maxHeartbeats 4000000 in
set_option maxRecDepth 100000 in
theorem c_X12_heardAs {l : Launch} {g : va_G} {ts : ClassId × ClassId × ClassId} {a : Nat → Nat} {σ : St} {p1 : Int32} {p2 : Int32} {r : Int64} {σ' : St} (hf : f_X12_heardAs σ p1 p2 = some (r, σ')) : ConL l g ts (WM ts a) yX12_heardAs cX12_heardAs 6 (some .long) (rk 101 2182) σ [.ref (a 0), .int p1, .int p2] r σ' := by
  refine ConL_mk rfl rfl (by decide) (Nat.le_of_ble_eq_true rfl) ?_
  intro p e s m below meth c A Q ls C hQ hP hD hS hl
  have C : FX p s m _ meth c RX12 cX12_heardAs 6 g ts A := C
  have hx := C.1
  have hb := C.2.1
  have hown := C.2.2.2.1
  have hts := C.2.2.2.2.1
  have hl : lv_has ls 6 [(0, .ref (a 0)), (1, .int p1), (2, .int p2)] := hl
  rw [f_X12_heardAs] at hf
  refine lv_lconst (v := 1) hx hb dX12_heardAs_0 (by decide) ?_
  refine lv_lstore_n (lv' := [(3, .long (1 : Int64)), (0, .ref (a 0)), (1, .int p1), (2, .int p2)]) hx hb dX12_heardAs_1 rfl hl (by decide) rfl (fun ls hl => ?_)
  refine lv_iconst (v := 0) hx hb dX12_heardAs_2 (by decide) ?_
  refine lv_istore (lv' := [(5, .int (0 : Int32)), (3, .long (1 : Int64)), (0, .ref (a 0)), (1, .int p1), (2, .int p2)]) hx hb dX12_heardAs_3 hl (by decide) rfl (fun ls hl => ?_)
  exact w_X12_heardAs_b5 C hQ 256 _ _ _ _ _ _ _ _ hf hP hD hS (lv_sub hl [2, 3, 4, 1, 0] rfl)
theorem dX12_confused_0 : decode cX12_confused 0 = .ok (.iload_n 1, 1) := by decide +kernel
theorem dX12_confused_1 : decode cX12_confused 1 = .ok (.ifCond .lt 28, 3) := by decide +kernel
theorem dX12_confused_4 : decode cX12_confused 4 = .ok (.aload_n 0, 1) := by decide +kernel
theorem dX12_confused_5 : decode cX12_confused 5 = .ok (.iload_n 1, 1) := by decide +kernel
theorem dX12_confused_6 : decode cX12_confused 6 = .ok (.bipush 10, 2) := by decide +kernel
theorem dX12_confused_8 : decode cX12_confused 8 = .ok (.idiv, 1) := by decide +kernel
theorem dX12_confused_9 : decode cX12_confused 9 = .ok (.iload_n 1, 1) := by decide +kernel
theorem dX12_confused_10 : decode cX12_confused 10 = .ok (.bipush 10, 2) := by decide +kernel
theorem dX12_confused_12 : decode cX12_confused 12 = .ok (.irem, 1) := by decide +kernel
theorem dX12_confused_13 : decode cX12_confused 13 = .ok (.invokevirtual 250, 3) := by decide +kernel
theorem dX12_confused_16 : decode cX12_confused 16 = .ok (.ifCond .eq 13, 3) := by decide +kernel
theorem dX12_confused_19 : decode cX12_confused 19 = .ok (.iload_n 2, 1) := by decide +kernel
theorem dX12_confused_20 : decode cX12_confused 20 = .ok (.i2l, 1) := by decide +kernel
theorem dX12_confused_21 : decode cX12_confused 21 = .ok (.lconst 0, 1) := by decide +kernel
theorem dX12_confused_22 : decode cX12_confused 22 = .ok (.lconst 1, 1) := by decide +kernel
theorem dX12_confused_23 : decode cX12_confused 23 = .ok (.invokestatic 91, 3) := by decide +kernel
theorem dX12_confused_26 : decode cX12_confused 26 = .ok (.ifCond .ne 7, 3) := by decide +kernel
theorem dX12_confused_29 : decode cX12_confused 29 = .ok (.ldc2_w 200, 3) := by decide +kernel
theorem dX12_confused_32 : decode cX12_confused 32 = .ok (.lreturn, 1) := by decide +kernel
theorem dX12_confused_33 : decode cX12_confused 33 = .ok (.aload_n 0, 1) := by decide +kernel
theorem dX12_confused_34 : decode cX12_confused 34 = .ok (.iload_n 1, 1) := by decide +kernel
theorem dX12_confused_35 : decode cX12_confused 35 = .ok (.bipush 10, 2) := by decide +kernel
theorem dX12_confused_37 : decode cX12_confused 37 = .ok (.idiv, 1) := by decide +kernel
theorem dX12_confused_38 : decode cX12_confused 38 = .ok (.iload_n 1, 1) := by decide +kernel
theorem dX12_confused_39 : decode cX12_confused 39 = .ok (.bipush 10, 2) := by decide +kernel
theorem dX12_confused_41 : decode cX12_confused 41 = .ok (.irem, 1) := by decide +kernel
theorem dX12_confused_42 : decode cX12_confused 42 = .ok (.invokevirtual 253, 3) := by decide +kernel
theorem dX12_confused_45 : decode cX12_confused 45 = .ok (.aload_n 0, 1) := by decide +kernel
theorem dX12_confused_46 : decode cX12_confused 46 = .ok (.getfield 24, 3) := by decide +kernel
theorem dX12_confused_49 : decode cX12_confused 49 = .ok (.iload_n 1, 1) := by decide +kernel
theorem dX12_confused_50 : decode cX12_confused 50 = .ok (.bipush 10, 2) := by decide +kernel
theorem dX12_confused_52 : decode cX12_confused 52 = .ok (.idiv, 1) := by decide +kernel
theorem dX12_confused_53 : decode cX12_confused 53 = .ok (.iaload, 1) := by decide +kernel
theorem dX12_confused_54 : decode cX12_confused 54 = .ok (.invokestatic 244, 3) := by decide +kernel
theorem dX12_confused_57 : decode cX12_confused 57 = .ok (.iload_n 2, 1) := by decide +kernel
theorem dX12_confused_58 : decode cX12_confused 58 = .ok (.invokestatic 202, 3) := by decide +kernel
theorem dX12_confused_61 : decode cX12_confused 61 = .ok (.lreturn, 1) := by decide +kernel
def f_X12_confused (σ : St) (p1 : Int32) (p2 : Int32) : Option (Int64 × St) := if p1 < 0 then (some ((-9223372036854775808 : Int64), σ)) else (bnd2 (f_X12_areTwo σ (p1 / (10 : Int32)) (p1 - p1 / (10 : Int32) * (10 : Int32))) (fun r3 σ4 => if r3 = 0 then (some ((-9223372036854775808 : Int64), σ4)) else (bnd1 (f_X12_within ((p2 : Int32).toInt64) (0 : Int64) (1 : Int64)) (fun r7 => if r7 = 0 then (some ((-9223372036854775808 : Int64), σ4)) else (bnd2 (f_X12_heardAs σ4 (p1 / (10 : Int32)) (p1 - p1 / (10 : Int32) * (10 : Int32))) (fun r10 σ11 => chk (p1 / (10 : Int32) < 0 ∨ 10 ≤ (p1 / (10 : Int32)).toNatClampNeg) (bnd1 (f_X12_powerOf (σ11.2.2.1 607 0 (p1 / (10 : Int32)).toNatClampNeg)) (fun r14 => bnd1 (f_X12_partOf r10 r14 p2) (fun r16 => some (r16, σ11))))))))))
set_option maxHeartbeats 4000000 in
set_option maxRecDepth 100000 in
theorem c_X12_confused {l : Launch} {g : va_G} {ts : ClassId × ClassId × ClassId} {a : Nat → Nat} {σ : St} {p1 : Int32} {p2 : Int32} {r : Int64} {σ' : St} (hf : f_X12_confused σ p1 p2 = some (r, σ')) : ConL l g ts (WM ts a) yX12_confused cX12_confused 3 (some .long) (rk 102 2207) σ [.ref (a 0), .int p1, .int p2] r σ' := by
  refine ConL_mk rfl rfl (by decide) (Nat.le_of_ble_eq_true rfl) ?_
  intro p e s m below meth c A Q ls C hQ hP hD hS hl
  have C : FX p s m _ meth c RX12 cX12_confused 3 g ts A := C
  have hx := C.1
  have hb := C.2.1
  have hown := C.2.2.2.1
  have hts := C.2.2.2.2.1
  have hl : lv_has ls 3 [(0, .ref (a 0)), (1, .int p1), (2, .int p2)] := hl
  rw [f_X12_confused] at hf
  refine lv_iload_n hx hb dX12_confused_0 rfl (lv_at hl 1 rfl) ?_
  refine lv_if_lt (tgt := 29) hx hb dX12_confused_1 (by decide) (fun c1 => ?_) (fun c1 => ?_)
  · replace hf := ipos c1 hf
    refine lv_ldc2 hx hb hown (hts _ q_1326) dX12_confused_29 ?_
    exact retL hQ hf dX12_confused_32 hP hD hS
  · replace hf := ineg c1 hf
    refine lv_aload_n hx hb dX12_confused_4 rfl (lv_at hl 0 rfl) ?_
    refine lv_iload_n hx hb dX12_confused_5 rfl (lv_at hl 1 rfl) ?_
    refine lv_bipush (v := 10) hx hb dX12_confused_6 (by decide) ?_
    refine lv_idiv hx hb dX12_confused_8 (by decide) ?_
    refine lv_iload_n hx hb dX12_confused_9 rfl (lv_at hl 1 rfl) ?_
    refine lv_bipush (v := 10) hx hb dX12_confused_10 (by decide) ?_
    refine lv_irem hx hb dX12_confused_12 (by decide) ?_
    obtain ⟨r3, σ4, h2, hf⟩ := bnd2_some hf
    refine vI [] C hP hD hS (c_X12_areTwo h2) mv_X12_areTwo q_1423 rv_X12 dX12_confused_13 ⟨Nat.le_of_ble_eq_true rfl, Nat.le_of_ble_eq_true rfl⟩ ⟨Nat.zero_le _, Nat.zero_le _⟩ rfl rfl (Nat.le_of_ble_eq_true rfl) hl.1 (fun H locs hP hD hS => ?_)
    refine lv_if_eq (tgt := 29) hx hb dX12_confused_16 (by decide) (fun c5 => ?_) (fun c5 => ?_)
    · replace hf := ipos c5 hf
      refine lv_ldc2 hx hb hown (hts _ q_1326) dX12_confused_29 ?_
      exact retL hQ hf dX12_confused_32 hP hD hS
    · replace hf := ineg c5 hf
      refine lv_iload_n hx hb dX12_confused_19 rfl (lv_at hl 2 rfl) ?_
      refine lv_i2l (v := (p2 : Int32).toInt64) hx hb dX12_confused_20 rfl ?_
      refine lv_lconst (v := 0) hx hb dX12_confused_21 (by decide) ?_
      refine lv_lconst (v := 1) hx hb dX12_confused_22 (by decide) ?_
      obtain ⟨r7, h6, hf⟩ := bnd1_some hf
      refine tI [] C hP hD hS (c_X12_within h6) ms_X12_within q_1218 dX12_confused_23 ⟨Nat.le_of_ble_eq_true rfl, Nat.le_of_ble_eq_true rfl⟩ ⟨Nat.zero_le _, Nat.zero_le _⟩ rfl rfl (Nat.le_of_ble_eq_true rfl) hl.1 (fun H locs hP hD hS => ?_)
      refine lv_if_ne (tgt := 33) hx hb dX12_confused_26 (by decide) (fun c8 => ?_) (fun c8 => ?_)
      · replace hf := ineg c8 hf
        refine lv_aload_n hx hb dX12_confused_33 rfl (lv_at hl 0 rfl) ?_
        refine lv_iload_n hx hb dX12_confused_34 rfl (lv_at hl 1 rfl) ?_
        refine lv_bipush (v := 10) hx hb dX12_confused_35 (by decide) ?_
        refine lv_idiv hx hb dX12_confused_37 (by decide) ?_
        refine lv_iload_n hx hb dX12_confused_38 rfl (lv_at hl 1 rfl) ?_
        refine lv_bipush (v := 10) hx hb dX12_confused_39 (by decide) ?_
        refine lv_irem hx hb dX12_confused_41 (by decide) ?_
        obtain ⟨r10, σ11, h9, hf⟩ := bnd2_some hf
        refine vL [] C hP hD hS (c_X12_heardAs h9) mv_X12_heardAs q_1427 rv_X12 dX12_confused_42 ⟨Nat.le_of_ble_eq_true rfl, Nat.le_of_ble_eq_true rfl⟩ ⟨Nat.zero_le _, Nat.zero_le _⟩ rfl rfl (Nat.le_of_ble_eq_true rfl) hl.1 (fun H locs hP hD hS => ?_)
        refine lv_aload_n hx hb dX12_confused_45 rfl (lv_at hl 0 rfl) ?_
        refine G_X12_longs C hP q_1079 dX12_confused_46 ?_
        refine lv_iload_n hx hb dX12_confused_49 rfl (lv_at hl 1 rfl) ?_
        refine lv_bipush (v := 10) hx hb dX12_confused_50 (by decide) ?_
        refine lv_idiv hx hb dX12_confused_52 (by decide) ?_
        obtain ⟨h12, hf⟩ := chk_some hf
        refine AL_X12_longs C hP h12 dX12_confused_53 ?_
        obtain ⟨r14, h13, hf⟩ := bnd1_some hf
        refine tL [.long r10] C hP hD hS (c_X12_powerOf h13) ms_X12_powerOf q_1400 dX12_confused_54 ⟨Nat.le_of_ble_eq_true rfl, Nat.le_of_ble_eq_true rfl⟩ ⟨Nat.zero_le _, Nat.zero_le _⟩ rfl rfl (Nat.le_of_ble_eq_true rfl) hl.1 (fun H locs hP hD hS => ?_)
        refine lv_iload_n hx hb dX12_confused_57 rfl (lv_at hl 2 rfl) ?_
        obtain ⟨r16, h15, hf⟩ := bnd1_some hf
        refine tL [] C hP hD hS (c_X12_partOf h15) ms_X12_partOf q_1331 dX12_confused_58 ⟨Nat.le_of_ble_eq_true rfl, Nat.le_of_ble_eq_true rfl⟩ ⟨Nat.zero_le _, Nat.zero_le _⟩ rfl rfl (Nat.le_of_ble_eq_true rfl) hl.1 (fun H locs hP hD hS => ?_)
        exact retL hQ hf dX12_confused_61 hP hD hS
      · replace hf := ipos c8 hf
        refine lv_ldc2 hx hb hown (hts _ q_1326) dX12_confused_29 ?_
        exact retL hQ hf dX12_confused_32 hP hD hS
theorem dX12_nearest_0 : decode cX12_nearest 0 = .ok (.aload_n 0, 1) := by decide +kernel
theorem dX12_nearest_1 : decode cX12_nearest 1 = .ok (.iload_n 1, 1) := by decide +kernel
theorem dX12_nearest_2 : decode cX12_nearest 2 = .ok (.invokevirtual 116, 3) := by decide +kernel
theorem dX12_nearest_5 : decode cX12_nearest 5 = .ok (.ifCond .ne 5, 3) := by decide +kernel
theorem dX12_nearest_8 : decode cX12_nearest 8 = .ok (.iconst (-1), 1) := by decide +kernel
theorem dX12_nearest_9 : decode cX12_nearest 9 = .ok (.ireturn, 1) := by decide +kernel
theorem dX12_nearest_10 : decode cX12_nearest 10 = .ok (.bipush (-2), 2) := by decide +kernel
theorem dX12_nearest_12 : decode cX12_nearest 12 = .ok (.istore_n 2, 1) := by decide +kernel
theorem dX12_nearest_13 : decode cX12_nearest 13 = .ok (.ldc2_w 227, 3) := by decide +kernel
theorem dX12_nearest_16 : decode cX12_nearest 16 = .ok (.lstore_n 3, 1) := by decide +kernel
theorem dX12_nearest_17 : decode cX12_nearest 17 = .ok (.iconst 0, 1) := by decide +kernel
theorem dX12_nearest_18 : decode cX12_nearest 18 = .ok (.istore 5, 2) := by decide +kernel
theorem dX12_nearest_20 : decode cX12_nearest 20 = .ok (.iload 5, 2) := by decide +kernel
theorem dX12_nearest_22 : decode cX12_nearest 22 = .ok (.aload_n 0, 1) := by decide +kernel
theorem dX12_nearest_23 : decode cX12_nearest 23 = .ok (.getfield 95, 3) := by decide +kernel
theorem dX12_nearest_26 : decode cX12_nearest 26 = .ok (.if_icmp .ge 62, 3) := by decide +kernel
theorem dX12_nearest_29 : decode cX12_nearest 29 = .ok (.aload_n 0, 1) := by decide +kernel
theorem dX12_nearest_30 : decode cX12_nearest 30 = .ok (.iload_n 1, 1) := by decide +kernel
theorem dX12_nearest_31 : decode cX12_nearest 31 = .ok (.iload 5, 2) := by decide +kernel
theorem dX12_nearest_33 : decode cX12_nearest 33 = .ok (.invokevirtual 250, 3) := by decide +kernel
theorem dX12_nearest_36 : decode cX12_nearest 36 = .ok (.ifCond .eq 13, 3) := by decide +kernel
theorem dX12_nearest_39 : decode cX12_nearest 39 = .ok (.aload_n 0, 1) := by decide +kernel
theorem dX12_nearest_40 : decode cX12_nearest 40 = .ok (.iload_n 1, 1) := by decide +kernel
theorem dX12_nearest_41 : decode cX12_nearest 41 = .ok (.iload 5, 2) := by decide +kernel
theorem dX12_nearest_43 : decode cX12_nearest 43 = .ok (.invokevirtual 253, 3) := by decide +kernel
theorem dX12_nearest_46 : decode cX12_nearest 46 = .ok (.goto 6, 3) := by decide +kernel
theorem dX12_nearest_49 : decode cX12_nearest 49 = .ok (.ldc2_w 227, 3) := by decide +kernel
theorem dX12_nearest_52 : decode cX12_nearest 52 = .ok (.lstore 6, 2) := by decide +kernel
theorem dX12_nearest_54 : decode cX12_nearest 54 = .ok (.lload 6, 2) := by decide +kernel
theorem dX12_nearest_56 : decode cX12_nearest 56 = .ok (.lload_n 3, 1) := by decide +kernel
theorem dX12_nearest_57 : decode cX12_nearest 57 = .ok (.lcmp, 1) := by decide +kernel
theorem dX12_nearest_58 : decode cX12_nearest 58 = .ok (.ifCond .le 8, 3) := by decide +kernel
theorem dX12_nearest_61 : decode cX12_nearest 61 = .ok (.iload 5, 2) := by decide +kernel
theorem dX12_nearest_63 : decode cX12_nearest 63 = .ok (.goto 4, 3) := by decide +kernel
theorem dX12_nearest_66 : decode cX12_nearest 66 = .ok (.iload_n 2, 1) := by decide +kernel
theorem dX12_nearest_67 : decode cX12_nearest 67 = .ok (.istore_n 2, 1) := by decide +kernel
theorem dX12_nearest_68 : decode cX12_nearest 68 = .ok (.lload 6, 2) := by decide +kernel
theorem dX12_nearest_70 : decode cX12_nearest 70 = .ok (.lload_n 3, 1) := by decide +kernel
theorem dX12_nearest_71 : decode cX12_nearest 71 = .ok (.lcmp, 1) := by decide +kernel
theorem dX12_nearest_72 : decode cX12_nearest 72 = .ok (.ifCond .le 8, 3) := by decide +kernel
theorem dX12_nearest_75 : decode cX12_nearest 75 = .ok (.lload 6, 2) := by decide +kernel
theorem dX12_nearest_77 : decode cX12_nearest 77 = .ok (.goto 4, 3) := by decide +kernel
theorem dX12_nearest_80 : decode cX12_nearest 80 = .ok (.lload_n 3, 1) := by decide +kernel
theorem dX12_nearest_81 : decode cX12_nearest 81 = .ok (.lstore_n 3, 1) := by decide +kernel
theorem dX12_nearest_82 : decode cX12_nearest 82 = .ok (.iinc 5 1, 3) := by decide +kernel
theorem dX12_nearest_85 : decode cX12_nearest 85 = .ok (.goto (-65), 3) := by decide +kernel
theorem dX12_nearest_88 : decode cX12_nearest 88 = .ok (.iload_n 2, 1) := by decide +kernel
theorem dX12_nearest_89 : decode cX12_nearest 89 = .ok (.ireturn, 1) := by decide +kernel
def f_X12_nearest_b67 (k20 : St → Int32 → Int32 → Int64 → Int32 → Option (Int32 × St)) (σ : St) (x1 : Int32) (x3 : Int64) (x5 : Int32) (x6 : Int64) (s0 : Int32) : Option (Int32 × St) := if x6 ≤ x3 then (bnd (x5 + 1) (fun v15 => k20 σ x1 s0 x3 v15)) else (bnd (x5 + 1) (fun v16 => k20 σ x1 s0 x6 v16))
def f_X12_nearest_b52 (k20 : St → Int32 → Int32 → Int64 → Int32 → Option (Int32 × St)) (σ : St) (x1 : Int32) (x2 : Int32) (x3 : Int64) (x5 : Int32) (s0 : Int64) : Option (Int32 × St) := if s0 ≤ x3 then (f_X12_nearest_b67 k20 σ x1 x3 x5 s0 x2) else (f_X12_nearest_b67 k20 σ x1 x3 x5 s0 x5)
def f_X12_nearest_b20 : Nat → St → Int32 → Int32 → Int64 → Int32 → Option (Int32 × St)
  | 0, _, _, _, _, _ => none
  | n + 1, σ, x1, x2, x3, x5 => if σ.1 606 0 ≤ x5 then (some (x2, σ)) else (bnd2 (f_X12_areTwo σ x1 x5) (fun r7 σ8 => if r7 = 0 then (f_X12_nearest_b52 (f_X12_nearest_b20 n) σ8 x1 x2 x3 x5 (-1 : Int64)) else (bnd2 (f_X12_heardAs σ8 x1 x5) (fun r11 σ12 => f_X12_nearest_b52 (f_X12_nearest_b20 n) σ12 x1 x2 x3 x5 r11))))
def f_X12_nearest (σ : St) (p1 : Int32) : Option (Int32 × St) := bnd2 (f_X12_isName σ p1) (fun r2 σ3 => if r2 = 0 then (some ((-1 : Int32), σ3)) else (f_X12_nearest_b20 256 σ3 p1 (-2 : Int32) (-1 : Int64) (0 : Int32)))
set_option maxHeartbeats 4000000 in
set_option maxRecDepth 100000 in
theorem w_X12_nearest_b67 {p : Program} {l : Launch} {e : Env} {s : State} {m : MethodId} {args : Array Value} {below : List Frame} {meth : Method} {c : Code} {g : va_G} {ts : ClassId × ClassId × ClassId} {A : Nat → Prop} {Q : State → Prop} {a : Nat → Nat} {r : Int32} {σ' : St} {k20 : St → Int32 → Int32 → Int64 → Int32 → Option (Int32 × St)} (C : FX p s m args meth c RX12 cX12_nearest 8 g ts A) (hQ : RetI p l e (rk 102 2207) s m args below meth c cX12_nearest g (WM ts a) A r σ' Q) (hk20 : ∀ (σ : St) (x1 : Int32) (x2 : Int32) (x3 : Int64) (x5 : Int32) (H : Heap) (locs : List Loc) (ls : Array Slot), k20 σ x1 x2 x3 x5 = some (r, σ') → va_P g classes (WM ts a σ) H → va_D A (WM ts a σ) → va_S A s.heap H locs → lv_has ls 8 [(0, .ref (a 0)), (1, .int x1), (2, .int x2), (3, .long x3), (5, .int x5)] → W p l e (rk 102 2207) s m args below meth c H locs 0 0 Q (F0 m 20 ls [])) : ∀ (σ : St) (x1 : Int32) (x3 : Int64) (x5 : Int32) (x6 : Int64) (s0 : Int32) (H : Heap) (locs : List Loc) (ls : Array Slot), f_X12_nearest_b67 k20 σ x1 x3 x5 x6 s0 = some (r, σ') → va_P g classes (WM ts a σ) H → va_D A (WM ts a σ) → va_S A s.heap H locs → lv_has ls 8 [(0, .ref (a 0)), (1, .int x1), (3, .long x3), (5, .int x5), (6, .long x6)] → W p l e (rk 102 2207) s m args below meth c H locs 0 0 Q (F0 m 67 ls [.int s0]) := by
  have hx := C.1
  have hb := C.2.1
  have hown := C.2.2.2.1
  have hts := C.2.2.2.2.1
  intro σ x1 x3 x5 x6 s0 H locs ls hf hP hD hS hl
  rw [f_X12_nearest_b67] at hf
  refine lv_istore_n (lv' := [(2, .int s0), (0, .ref (a 0)), (1, .int x1), (3, .long x3), (5, .int x5), (6, .long x6)]) hx hb dX12_nearest_67 rfl hl (by decide) rfl (fun ls hl => ?_)
  refine lv_lload hx hb dX12_nearest_68 (lv_at hl 5 rfl) ?_
  refine lv_lload_n hx hb dX12_nearest_70 rfl (lv_at hl 3 rfl) ?_
  refine lb_le (tgt := 80) hx hb dX12_nearest_71 dX12_nearest_72 (by decide) (fun c14 => ?_) (fun c14 => ?_)
  · replace hf := ipos c14 hf
    refine lv_lload_n hx hb dX12_nearest_80 rfl (lv_at hl 3 rfl) ?_
    refine lv_lstore_n (lv' := [(3, .long x3), (2, .int s0), (0, .ref (a 0)), (1, .int x1), (5, .int x5), (6, .long x6)]) hx hb dX12_nearest_81 rfl hl (by decide) rfl (fun ls hl => ?_)
    obtain ⟨v15, ev15⟩ : ∃ z : Int32, z = x5 + 1 := ⟨_, rfl⟩
    replace hf := bnd_at ev15 hf
    refine lv_iinc (v := v15) (lv' := [(5, .int v15), (3, .long x3), (2, .int s0), (0, .ref (a 0)), (1, .int x1), (6, .long x6)]) hx hb dX12_nearest_82 hl (k := 4) rfl (by rw [ev15]; rfl) (by decide) rfl (fun ls hl => ?_)
    refine lv_goto (tgt := 20) hx hb dX12_nearest_85 (by decide) ?_
    exact hk20 _ _ _ _ _ _ _ _ hf hP hD hS (lv_sub hl [3, 4, 2, 1, 0] rfl)
  · replace hf := ineg c14 hf
    refine lv_lload hx hb dX12_nearest_75 (lv_at hl 5 rfl) ?_
    refine lv_goto (tgt := 81) hx hb dX12_nearest_77 (by decide) ?_
    refine lv_lstore_n (lv' := [(3, .long x6), (2, .int s0), (0, .ref (a 0)), (1, .int x1), (5, .int x5), (6, .long x6)]) hx hb dX12_nearest_81 rfl hl (by decide) rfl (fun ls hl => ?_)
    obtain ⟨v16, ev16⟩ : ∃ z : Int32, z = x5 + 1 := ⟨_, rfl⟩
    replace hf := bnd_at ev16 hf
    refine lv_iinc (v := v16) (lv' := [(5, .int v16), (3, .long x6), (2, .int s0), (0, .ref (a 0)), (1, .int x1), (6, .long x6)]) hx hb dX12_nearest_82 hl (k := 4) rfl (by rw [ev16]; rfl) (by decide) rfl (fun ls hl => ?_)
    refine lv_goto (tgt := 20) hx hb dX12_nearest_85 (by decide) ?_
    exact hk20 _ _ _ _ _ _ _ _ hf hP hD hS (lv_sub hl [3, 4, 2, 1, 0] rfl)
set_option maxHeartbeats 4000000 in
set_option maxRecDepth 100000 in
theorem w_X12_nearest_b52 {p : Program} {l : Launch} {e : Env} {s : State} {m : MethodId} {args : Array Value} {below : List Frame} {meth : Method} {c : Code} {g : va_G} {ts : ClassId × ClassId × ClassId} {A : Nat → Prop} {Q : State → Prop} {a : Nat → Nat} {r : Int32} {σ' : St} {k20 : St → Int32 → Int32 → Int64 → Int32 → Option (Int32 × St)} (C : FX p s m args meth c RX12 cX12_nearest 8 g ts A) (hQ : RetI p l e (rk 102 2207) s m args below meth c cX12_nearest g (WM ts a) A r σ' Q) (hk20 : ∀ (σ : St) (x1 : Int32) (x2 : Int32) (x3 : Int64) (x5 : Int32) (H : Heap) (locs : List Loc) (ls : Array Slot), k20 σ x1 x2 x3 x5 = some (r, σ') → va_P g classes (WM ts a σ) H → va_D A (WM ts a σ) → va_S A s.heap H locs → lv_has ls 8 [(0, .ref (a 0)), (1, .int x1), (2, .int x2), (3, .long x3), (5, .int x5)] → W p l e (rk 102 2207) s m args below meth c H locs 0 0 Q (F0 m 20 ls [])) : ∀ (σ : St) (x1 : Int32) (x2 : Int32) (x3 : Int64) (x5 : Int32) (s0 : Int64) (H : Heap) (locs : List Loc) (ls : Array Slot), f_X12_nearest_b52 k20 σ x1 x2 x3 x5 s0 = some (r, σ') → va_P g classes (WM ts a σ) H → va_D A (WM ts a σ) → va_S A s.heap H locs → lv_has ls 8 [(0, .ref (a 0)), (1, .int x1), (2, .int x2), (3, .long x3), (5, .int x5)] → W p l e (rk 102 2207) s m args below meth c H locs 0 0 Q (F0 m 52 ls [.long s0]) := by
  have hx := C.1
  have hb := C.2.1
  have hown := C.2.2.2.1
  have hts := C.2.2.2.2.1
  intro σ x1 x2 x3 x5 s0 H locs ls hf hP hD hS hl
  rw [f_X12_nearest_b52] at hf
  refine lv_lstore (lv' := [(6, .long s0), (0, .ref (a 0)), (1, .int x1), (2, .int x2), (3, .long x3), (5, .int x5)]) hx hb dX12_nearest_52 hl (by decide) rfl (fun ls hl => ?_)
  refine lv_lload hx hb dX12_nearest_54 (lv_at hl 0 rfl) ?_
  refine lv_lload_n hx hb dX12_nearest_56 rfl (lv_at hl 4 rfl) ?_
  refine lb_le (tgt := 66) hx hb dX12_nearest_57 dX12_nearest_58 (by decide) (fun c13 => ?_) (fun c13 => ?_)
  · replace hf := ipos c13 hf
    refine lv_iload_n hx hb dX12_nearest_66 rfl (lv_at hl 3 rfl) ?_
    exact w_X12_nearest_b67 C hQ hk20 _ _ _ _ _ _ _ _ _ hf hP hD hS (lv_sub hl [1, 2, 4, 5, 0] rfl)
  · replace hf := ineg c13 hf
    refine lv_iload hx hb dX12_nearest_61 (lv_at hl 5 rfl) ?_
    refine lv_goto (tgt := 67) hx hb dX12_nearest_63 (by decide) ?_
    exact w_X12_nearest_b67 C hQ hk20 _ _ _ _ _ _ _ _ _ hf hP hD hS (lv_sub hl [1, 2, 4, 5, 0] rfl)
set_option maxHeartbeats 4000000 in
set_option maxRecDepth 100000 in
theorem w_X12_nearest_b20 {p : Program} {l : Launch} {e : Env} {s : State} {m : MethodId} {args : Array Value} {below : List Frame} {meth : Method} {c : Code} {g : va_G} {ts : ClassId × ClassId × ClassId} {A : Nat → Prop} {Q : State → Prop} {a : Nat → Nat} {r : Int32} {σ' : St} (C : FX p s m args meth c RX12 cX12_nearest 8 g ts A) (hQ : RetI p l e (rk 102 2207) s m args below meth c cX12_nearest g (WM ts a) A r σ' Q) : ∀ (n : Nat) (σ : St) (x1 : Int32) (x2 : Int32) (x3 : Int64) (x5 : Int32) (H : Heap) (locs : List Loc) (ls : Array Slot), f_X12_nearest_b20 n σ x1 x2 x3 x5 = some (r, σ') → va_P g classes (WM ts a σ) H → va_D A (WM ts a σ) → va_S A s.heap H locs → lv_has ls 8 [(0, .ref (a 0)), (1, .int x1), (2, .int x2), (3, .long x3), (5, .int x5)] → W p l e (rk 102 2207) s m args below meth c H locs 0 0 Q (F0 m 20 ls []) := by
  have hx := C.1
  have hb := C.2.1
  have hown := C.2.2.2.1
  have hts := C.2.2.2.2.1
  intro n
  induction n with
  | zero =>
    intro σ x1 x2 x3 x5 H locs ls hf
    cases hf
  | succ n ih =>
    intro σ x1 x2 x3 x5 H locs ls hf hP hD hS hl
    rw [f_X12_nearest_b20] at hf
    refine lv_iload hx hb dX12_nearest_20 (lv_at hl 4 rfl) ?_
    refine lv_aload_n hx hb dX12_nearest_22 rfl (lv_at hl 0 rfl) ?_
    refine G_X12_namesMany C hP q_1078 dX12_nearest_23 ?_
    refine lv_icmp_ge (tgt := 88) hx hb dX12_nearest_26 (by decide) (fun c5 => ?_) (fun c5 => ?_)
    · replace hf := ipos c5 hf
      refine lv_iload_n hx hb dX12_nearest_88 rfl (lv_at hl 2 rfl) ?_
      exact retI hQ hf dX12_nearest_89 hP hD hS
    · replace hf := ineg c5 hf
      refine lv_aload_n hx hb dX12_nearest_29 rfl (lv_at hl 0 rfl) ?_
      refine lv_iload_n hx hb dX12_nearest_30 rfl (lv_at hl 1 rfl) ?_
      refine lv_iload hx hb dX12_nearest_31 (lv_at hl 4 rfl) ?_
      obtain ⟨r7, σ8, h6, hf⟩ := bnd2_some hf
      refine vI [] C hP hD hS (c_X12_areTwo h6) mv_X12_areTwo q_1423 rv_X12 dX12_nearest_33 ⟨Nat.le_of_ble_eq_true rfl, Nat.le_of_ble_eq_true rfl⟩ ⟨Nat.zero_le _, Nat.zero_le _⟩ rfl rfl (Nat.le_of_ble_eq_true rfl) hl.1 (fun H locs hP hD hS => ?_)
      refine lv_if_eq (tgt := 49) hx hb dX12_nearest_36 (by decide) (fun c9 => ?_) (fun c9 => ?_)
      · replace hf := ipos c9 hf
        refine lv_ldc2 hx hb hown (hts _ q_1379) dX12_nearest_49 ?_
        exact w_X12_nearest_b52 C hQ ih _ _ _ _ _ _ _ _ _ hf hP hD hS (lv_sub hl [0, 1, 2, 3, 4] rfl)
      · replace hf := ineg c9 hf
        refine lv_aload_n hx hb dX12_nearest_39 rfl (lv_at hl 0 rfl) ?_
        refine lv_iload_n hx hb dX12_nearest_40 rfl (lv_at hl 1 rfl) ?_
        refine lv_iload hx hb dX12_nearest_41 (lv_at hl 4 rfl) ?_
        obtain ⟨r11, σ12, h10, hf⟩ := bnd2_some hf
        refine vL [] C hP hD hS (c_X12_heardAs h10) mv_X12_heardAs q_1427 rv_X12 dX12_nearest_43 ⟨Nat.le_of_ble_eq_true rfl, Nat.le_of_ble_eq_true rfl⟩ ⟨Nat.zero_le _, Nat.zero_le _⟩ rfl rfl (Nat.le_of_ble_eq_true rfl) hl.1 (fun H locs hP hD hS => ?_)
        refine lv_goto (tgt := 52) hx hb dX12_nearest_46 (by decide) ?_
        exact w_X12_nearest_b52 C hQ ih _ _ _ _ _ _ _ _ _ hf hP hD hS (lv_sub hl [0, 1, 2, 3, 4] rfl)
set_option maxHeartbeats 4000000 in
set_option maxRecDepth 100000 in
theorem c_X12_nearest {l : Launch} {g : va_G} {ts : ClassId × ClassId × ClassId} {a : Nat → Nat} {σ : St} {p1 : Int32} {r : Int32} {σ' : St} (hf : f_X12_nearest σ p1 = some (r, σ')) : ConI l g ts (WM ts a) yX12_nearest cX12_nearest 8 (some .int) (rk 102 2207) σ [.ref (a 0), .int p1] r σ' := by
  refine ConI_mk .int rfl rfl rfl rfl (by decide) (Nat.le_of_ble_eq_true rfl) ?_
  intro p e s m below meth c A Q ls C hQ hP hD hS hl
  have C : FX p s m _ meth c RX12 cX12_nearest 8 g ts A := C
  have hx := C.1
  have hb := C.2.1
  have hown := C.2.2.2.1
  have hts := C.2.2.2.2.1
  have hl : lv_has ls 8 [(0, .ref (a 0)), (1, .int p1)] := hl
  rw [f_X12_nearest] at hf
  refine lv_aload_n hx hb dX12_nearest_0 rfl (lv_at hl 0 rfl) ?_
  refine lv_iload_n hx hb dX12_nearest_1 rfl (lv_at hl 1 rfl) ?_
  obtain ⟨r2, σ3, h1, hf⟩ := bnd2_some hf
  refine vI [] C hP hD hS (c_X12_isName h1) mv_X12_isName q_1242 rv_X12 dX12_nearest_2 ⟨Nat.le_of_ble_eq_true rfl, Nat.le_of_ble_eq_true rfl⟩ ⟨Nat.zero_le _, Nat.zero_le _⟩ rfl rfl (Nat.le_of_ble_eq_true rfl) hl.1 (fun H locs hP hD hS => ?_)
  refine lv_if_ne (tgt := 10) hx hb dX12_nearest_5 (by decide) (fun c4 => ?_) (fun c4 => ?_)
  · replace hf := ineg c4 hf
    refine lv_bipush (v := -2) hx hb dX12_nearest_10 (by decide) ?_
    refine lv_istore_n (lv' := [(2, .int (-2 : Int32)), (0, .ref (a 0)), (1, .int p1)]) hx hb dX12_nearest_12 rfl hl (by decide) rfl (fun ls hl => ?_)
    refine lv_ldc2 hx hb hown (hts _ q_1379) dX12_nearest_13 ?_
    refine lv_lstore_n (lv' := [(3, .long (-1 : Int64)), (2, .int (-2 : Int32)), (0, .ref (a 0)), (1, .int p1)]) hx hb dX12_nearest_16 rfl hl (by decide) rfl (fun ls hl => ?_)
    refine lv_iconst (v := 0) hx hb dX12_nearest_17 (by decide) ?_
    refine lv_istore (lv' := [(5, .int (0 : Int32)), (3, .long (-1 : Int64)), (2, .int (-2 : Int32)), (0, .ref (a 0)), (1, .int p1)]) hx hb dX12_nearest_18 hl (by decide) rfl (fun ls hl => ?_)
    exact w_X12_nearest_b20 C hQ 256 _ _ _ _ _ _ _ _ hf hP hD hS (lv_sub hl [3, 4, 2, 1, 0] rfl)
  · replace hf := ipos c4 hf
    refine lv_iconst (v := -1) hx hb dX12_nearest_8 (by decide) ?_
    exact retI hQ hf dX12_nearest_9 hP hD hS
theorem dX12_pairs_0 : decode cX12_pairs 0 = .ok (.bipush (-2), 2) := by decide +kernel
theorem dX12_pairs_2 : decode cX12_pairs 2 = .ok (.istore_n 1, 1) := by decide +kernel
theorem dX12_pairs_3 : decode cX12_pairs 3 = .ok (.ldc2_w 227, 3) := by decide +kernel
theorem dX12_pairs_6 : decode cX12_pairs 6 = .ok (.lstore_n 2, 1) := by decide +kernel
theorem dX12_pairs_7 : decode cX12_pairs 7 = .ok (.iconst 0, 1) := by decide +kernel
theorem dX12_pairs_8 : decode cX12_pairs 8 = .ok (.istore 4, 2) := by decide +kernel
theorem dX12_pairs_10 : decode cX12_pairs 10 = .ok (.iload 4, 2) := by decide +kernel
theorem dX12_pairs_12 : decode cX12_pairs 12 = .ok (.aload_n 0, 1) := by decide +kernel
theorem dX12_pairs_13 : decode cX12_pairs 13 = .ok (.getfield 95, 3) := by decide +kernel
theorem dX12_pairs_16 : decode cX12_pairs 16 = .ok (.if_icmp .ge 108, 3) := by decide +kernel
theorem dX12_pairs_19 : decode cX12_pairs 19 = .ok (.iload 4, 2) := by decide +kernel
theorem dX12_pairs_21 : decode cX12_pairs 21 = .ok (.iconst 1, 1) := by decide +kernel
theorem dX12_pairs_22 : decode cX12_pairs 22 = .ok (.iadd, 1) := by decide +kernel
theorem dX12_pairs_23 : decode cX12_pairs 23 = .ok (.istore 5, 2) := by decide +kernel
theorem dX12_pairs_25 : decode cX12_pairs 25 = .ok (.iload 5, 2) := by decide +kernel
theorem dX12_pairs_27 : decode cX12_pairs 27 = .ok (.aload_n 0, 1) := by decide +kernel
theorem dX12_pairs_28 : decode cX12_pairs 28 = .ok (.getfield 95, 3) := by decide +kernel
theorem dX12_pairs_31 : decode cX12_pairs 31 = .ok (.if_icmp .ge 87, 3) := by decide +kernel
theorem dX12_pairs_34 : decode cX12_pairs 34 = .ok (.aload_n 0, 1) := by decide +kernel
theorem dX12_pairs_35 : decode cX12_pairs 35 = .ok (.iload 4, 2) := by decide +kernel
theorem dX12_pairs_37 : decode cX12_pairs 37 = .ok (.iload 5, 2) := by decide +kernel
theorem dX12_pairs_39 : decode cX12_pairs 39 = .ok (.invokevirtual 250, 3) := by decide +kernel
theorem dX12_pairs_42 : decode cX12_pairs 42 = .ok (.ifCond .eq 70, 3) := by decide +kernel
theorem dX12_pairs_45 : decode cX12_pairs 45 = .ok (.aload_n 0, 1) := by decide +kernel
theorem dX12_pairs_46 : decode cX12_pairs 46 = .ok (.iload 4, 2) := by decide +kernel
theorem dX12_pairs_48 : decode cX12_pairs 48 = .ok (.iload 5, 2) := by decide +kernel
theorem dX12_pairs_50 : decode cX12_pairs 50 = .ok (.invokevirtual 253, 3) := by decide +kernel
theorem dX12_pairs_53 : decode cX12_pairs 53 = .ok (.aload_n 0, 1) := by decide +kernel
theorem dX12_pairs_54 : decode cX12_pairs 54 = .ok (.iload 5, 2) := by decide +kernel
theorem dX12_pairs_56 : decode cX12_pairs 56 = .ok (.iload 4, 2) := by decide +kernel
theorem dX12_pairs_58 : decode cX12_pairs 58 = .ok (.invokevirtual 253, 3) := by decide +kernel
theorem dX12_pairs_61 : decode cX12_pairs 61 = .ok (.ladd, 1) := by decide +kernel
theorem dX12_pairs_62 : decode cX12_pairs 62 = .ok (.bipush 6, 2) := by decide +kernel
theorem dX12_pairs_64 : decode cX12_pairs 64 = .ok (.aload_n 0, 1) := by decide +kernel
theorem dX12_pairs_65 : decode cX12_pairs 65 = .ok (.getfield 24, 3) := by decide +kernel
theorem dX12_pairs_68 : decode cX12_pairs 68 = .ok (.iload 4, 2) := by decide +kernel
theorem dX12_pairs_70 : decode cX12_pairs 70 = .ok (.iaload, 1) := by decide +kernel
theorem dX12_pairs_71 : decode cX12_pairs 71 = .ok (.isub, 1) := by decide +kernel
theorem dX12_pairs_72 : decode cX12_pairs 72 = .ok (.invokestatic 244, 3) := by decide +kernel
theorem dX12_pairs_75 : decode cX12_pairs 75 = .ok (.lmul, 1) := by decide +kernel
theorem dX12_pairs_76 : decode cX12_pairs 76 = .ok (.lstore 6, 2) := by decide +kernel
theorem dX12_pairs_78 : decode cX12_pairs 78 = .ok (.lload 6, 2) := by decide +kernel
theorem dX12_pairs_80 : decode cX12_pairs 80 = .ok (.lload_n 2, 1) := by decide +kernel
theorem dX12_pairs_81 : decode cX12_pairs 81 = .ok (.lcmp, 1) := by decide +kernel
theorem dX12_pairs_82 : decode cX12_pairs 82 = .ok (.ifCond .le 14, 3) := by decide +kernel
theorem dX12_pairs_85 : decode cX12_pairs 85 = .ok (.bipush 10, 2) := by decide +kernel
theorem dX12_pairs_87 : decode cX12_pairs 87 = .ok (.iload 4, 2) := by decide +kernel
theorem dX12_pairs_89 : decode cX12_pairs 89 = .ok (.imul, 1) := by decide +kernel
theorem dX12_pairs_90 : decode cX12_pairs 90 = .ok (.iload 5, 2) := by decide +kernel
theorem dX12_pairs_92 : decode cX12_pairs 92 = .ok (.iadd, 1) := by decide +kernel
theorem dX12_pairs_93 : decode cX12_pairs 93 = .ok (.goto 4, 3) := by decide +kernel
theorem dX12_pairs_96 : decode cX12_pairs 96 = .ok (.iload_n 1, 1) := by decide +kernel
theorem dX12_pairs_97 : decode cX12_pairs 97 = .ok (.istore_n 1, 1) := by decide +kernel
theorem dX12_pairs_98 : decode cX12_pairs 98 = .ok (.lload 6, 2) := by decide +kernel
theorem dX12_pairs_100 : decode cX12_pairs 100 = .ok (.lload_n 2, 1) := by decide +kernel
theorem dX12_pairs_101 : decode cX12_pairs 101 = .ok (.lcmp, 1) := by decide +kernel
theorem dX12_pairs_102 : decode cX12_pairs 102 = .ok (.ifCond .le 8, 3) := by decide +kernel
theorem dX12_pairs_105 : decode cX12_pairs 105 = .ok (.lload 6, 2) := by decide +kernel
theorem dX12_pairs_107 : decode cX12_pairs 107 = .ok (.goto 4, 3) := by decide +kernel
theorem dX12_pairs_110 : decode cX12_pairs 110 = .ok (.lload_n 2, 1) := by decide +kernel
theorem dX12_pairs_111 : decode cX12_pairs 111 = .ok (.lstore_n 2, 1) := by decide +kernel
theorem dX12_pairs_112 : decode cX12_pairs 112 = .ok (.iinc 5 1, 3) := by decide +kernel
theorem dX12_pairs_115 : decode cX12_pairs 115 = .ok (.goto (-90), 3) := by decide +kernel
theorem dX12_pairs_118 : decode cX12_pairs 118 = .ok (.iinc 4 1, 3) := by decide +kernel
theorem dX12_pairs_121 : decode cX12_pairs 121 = .ok (.goto (-111), 3) := by decide +kernel
theorem dX12_pairs_124 : decode cX12_pairs 124 = .ok (.iload_n 1, 1) := by decide +kernel
theorem dX12_pairs_125 : decode cX12_pairs 125 = .ok (.ireturn, 1) := by decide +kernel
def f_X12_pairs_b97 (k10 : St → Int32 → Int64 → Int32 → Option (Int32 × St)) (k25 : St → Int32 → Int64 → Int32 → Int32 → Option (Int32 × St)) (σ : St) (x2 : Int64) (x4 : Int32) (x5 : Int32) (x6 : Int64) (s0 : Int32) : Option (Int32 × St) := if x6 ≤ x2 then (bnd (x5 + 1) (fun v22 => k25 σ s0 x2 x4 v22)) else (bnd (x5 + 1) (fun v23 => k25 σ s0 x6 x4 v23))
def f_X12_pairs_b25 (k10 : St → Int32 → Int64 → Int32 → Option (Int32 × St)) : Nat → St → Int32 → Int64 → Int32 → Int32 → Option (Int32 × St)
  | 0, _, _, _, _, _ => none
  | n + 1, σ, x1, x2, x4, x5 => if σ.1 606 0 ≤ x5 then (bnd (x4 + 1) (fun v4 => k10 σ x1 x2 v4)) else (bnd2 (f_X12_areTwo σ x4 x5) (fun r6 σ7 => if r6 = 0 then (bnd (x5 + 1) (fun v9 => f_X12_pairs_b25 k10 n σ7 x1 x2 x4 v9)) else (bnd2 (f_X12_heardAs σ7 x4 x5) (fun r11 σ12 => bnd2 (f_X12_heardAs σ12 x5 x4) (fun r14 σ15 => chk (x4 < 0 ∨ 10 ≤ x4.toNatClampNeg) (bnd1 (f_X12_powerOf ((6 : Int32) - (σ15.2.2.1 607 0 x4.toNatClampNeg))) (fun r18 => bnd ((r11 + r14) * r18) (fun v19 => if v19 ≤ x2 then (f_X12_pairs_b97 k10 (f_X12_pairs_b25 k10 n) σ15 x2 x4 x5 v19 x1) else (f_X12_pairs_b97 k10 (f_X12_pairs_b25 k10 n) σ15 x2 x4 x5 v19 (((10 : Int32) * x4) + x5))))))))))
def f_X12_pairs_b10 : Nat → St → Int32 → Int64 → Int32 → Option (Int32 × St)
  | 0, _, _, _, _ => none
  | n + 1, σ, x1, x2, x4 => if σ.1 606 0 ≤ x4 then (some (x1, σ)) else (bnd (x4 + (1 : Int32)) (fun v2 => f_X12_pairs_b25 (f_X12_pairs_b10 n) 256 σ x1 x2 x4 v2))
def f_X12_pairs (σ : St) : Option (Int32 × St) := f_X12_pairs_b10 256 σ (-2 : Int32) (-1 : Int64) (0 : Int32)
set_option maxHeartbeats 4000000 in
set_option maxRecDepth 100000 in
theorem w_X12_pairs_b97 {p : Program} {l : Launch} {e : Env} {s : State} {m : MethodId} {args : Array Value} {below : List Frame} {meth : Method} {c : Code} {g : va_G} {ts : ClassId × ClassId × ClassId} {A : Nat → Prop} {Q : State → Prop} {a : Nat → Nat} {r : Int32} {σ' : St} {k10 : St → Int32 → Int64 → Int32 → Option (Int32 × St)} {k25 : St → Int32 → Int64 → Int32 → Int32 → Option (Int32 × St)} (C : FX p s m args meth c RX12 cX12_pairs 8 g ts A) (hQ : RetI p l e (rk 102 2207) s m args below meth c cX12_pairs g (WM ts a) A r σ' Q) (hk10 : ∀ (σ : St) (x1 : Int32) (x2 : Int64) (x4 : Int32) (H : Heap) (locs : List Loc) (ls : Array Slot), k10 σ x1 x2 x4 = some (r, σ') → va_P g classes (WM ts a σ) H → va_D A (WM ts a σ) → va_S A s.heap H locs → lv_has ls 8 [(0, .ref (a 0)), (1, .int x1), (2, .long x2), (4, .int x4)] → W p l e (rk 102 2207) s m args below meth c H locs 0 0 Q (F0 m 10 ls [])) (hk25 : ∀ (σ : St) (x1 : Int32) (x2 : Int64) (x4 : Int32) (x5 : Int32) (H : Heap) (locs : List Loc) (ls : Array Slot), k25 σ x1 x2 x4 x5 = some (r, σ') → va_P g classes (WM ts a σ) H → va_D A (WM ts a σ) → va_S A s.heap H locs → lv_has ls 8 [(0, .ref (a 0)), (1, .int x1), (2, .long x2), (4, .int x4), (5, .int x5)] → W p l e (rk 102 2207) s m args below meth c H locs 0 0 Q (F0 m 25 ls [])) : ∀ (σ : St) (x2 : Int64) (x4 : Int32) (x5 : Int32) (x6 : Int64) (s0 : Int32) (H : Heap) (locs : List Loc) (ls : Array Slot), f_X12_pairs_b97 k10 k25 σ x2 x4 x5 x6 s0 = some (r, σ') → va_P g classes (WM ts a σ) H → va_D A (WM ts a σ) → va_S A s.heap H locs → lv_has ls 8 [(0, .ref (a 0)), (2, .long x2), (4, .int x4), (5, .int x5), (6, .long x6)] → W p l e (rk 102 2207) s m args below meth c H locs 0 0 Q (F0 m 97 ls [.int s0]) := by
  have hx := C.1
  have hb := C.2.1
  have hown := C.2.2.2.1
  have hts := C.2.2.2.2.1
  intro σ x2 x4 x5 x6 s0 H locs ls hf hP hD hS hl
  rw [f_X12_pairs_b97] at hf
  refine lv_istore_n (lv' := [(1, .int s0), (0, .ref (a 0)), (2, .long x2), (4, .int x4), (5, .int x5), (6, .long x6)]) hx hb dX12_pairs_97 rfl hl (by decide) rfl (fun ls hl => ?_)
  refine lv_lload hx hb dX12_pairs_98 (lv_at hl 5 rfl) ?_
  refine lv_lload_n hx hb dX12_pairs_100 rfl (lv_at hl 2 rfl) ?_
  refine lb_le (tgt := 110) hx hb dX12_pairs_101 dX12_pairs_102 (by decide) (fun c21 => ?_) (fun c21 => ?_)
  · replace hf := ipos c21 hf
    refine lv_lload_n hx hb dX12_pairs_110 rfl (lv_at hl 2 rfl) ?_
    refine lv_lstore_n (lv' := [(2, .long x2), (1, .int s0), (0, .ref (a 0)), (4, .int x4), (5, .int x5), (6, .long x6)]) hx hb dX12_pairs_111 rfl hl (by decide) rfl (fun ls hl => ?_)
    obtain ⟨v22, ev22⟩ : ∃ z : Int32, z = x5 + 1 := ⟨_, rfl⟩
    replace hf := bnd_at ev22 hf
    refine lv_iinc (v := v22) (lv' := [(5, .int v22), (2, .long x2), (1, .int s0), (0, .ref (a 0)), (4, .int x4), (6, .long x6)]) hx hb dX12_pairs_112 hl (k := 4) rfl (by rw [ev22]; rfl) (by decide) rfl (fun ls hl => ?_)
    refine lv_goto (tgt := 25) hx hb dX12_pairs_115 (by decide) ?_
    exact hk25 _ _ _ _ _ _ _ _ hf hP hD hS (lv_sub hl [3, 2, 1, 4, 0] rfl)
  · replace hf := ineg c21 hf
    refine lv_lload hx hb dX12_pairs_105 (lv_at hl 5 rfl) ?_
    refine lv_goto (tgt := 111) hx hb dX12_pairs_107 (by decide) ?_
    refine lv_lstore_n (lv' := [(2, .long x6), (1, .int s0), (0, .ref (a 0)), (4, .int x4), (5, .int x5), (6, .long x6)]) hx hb dX12_pairs_111 rfl hl (by decide) rfl (fun ls hl => ?_)
    obtain ⟨v23, ev23⟩ : ∃ z : Int32, z = x5 + 1 := ⟨_, rfl⟩
    replace hf := bnd_at ev23 hf
    refine lv_iinc (v := v23) (lv' := [(5, .int v23), (2, .long x6), (1, .int s0), (0, .ref (a 0)), (4, .int x4), (6, .long x6)]) hx hb dX12_pairs_112 hl (k := 4) rfl (by rw [ev23]; rfl) (by decide) rfl (fun ls hl => ?_)
    refine lv_goto (tgt := 25) hx hb dX12_pairs_115 (by decide) ?_
    exact hk25 _ _ _ _ _ _ _ _ hf hP hD hS (lv_sub hl [3, 2, 1, 4, 0] rfl)
set_option maxHeartbeats 4000000 in
set_option maxRecDepth 100000 in
theorem w_X12_pairs_b25 {p : Program} {l : Launch} {e : Env} {s : State} {m : MethodId} {args : Array Value} {below : List Frame} {meth : Method} {c : Code} {g : va_G} {ts : ClassId × ClassId × ClassId} {A : Nat → Prop} {Q : State → Prop} {a : Nat → Nat} {r : Int32} {σ' : St} {k10 : St → Int32 → Int64 → Int32 → Option (Int32 × St)} (C : FX p s m args meth c RX12 cX12_pairs 8 g ts A) (hQ : RetI p l e (rk 102 2207) s m args below meth c cX12_pairs g (WM ts a) A r σ' Q) (hk10 : ∀ (σ : St) (x1 : Int32) (x2 : Int64) (x4 : Int32) (H : Heap) (locs : List Loc) (ls : Array Slot), k10 σ x1 x2 x4 = some (r, σ') → va_P g classes (WM ts a σ) H → va_D A (WM ts a σ) → va_S A s.heap H locs → lv_has ls 8 [(0, .ref (a 0)), (1, .int x1), (2, .long x2), (4, .int x4)] → W p l e (rk 102 2207) s m args below meth c H locs 0 0 Q (F0 m 10 ls [])) : ∀ (n : Nat) (σ : St) (x1 : Int32) (x2 : Int64) (x4 : Int32) (x5 : Int32) (H : Heap) (locs : List Loc) (ls : Array Slot), f_X12_pairs_b25 k10 n σ x1 x2 x4 x5 = some (r, σ') → va_P g classes (WM ts a σ) H → va_D A (WM ts a σ) → va_S A s.heap H locs → lv_has ls 8 [(0, .ref (a 0)), (1, .int x1), (2, .long x2), (4, .int x4), (5, .int x5)] → W p l e (rk 102 2207) s m args below meth c H locs 0 0 Q (F0 m 25 ls []) := by
  have hx := C.1
  have hb := C.2.1
  have hown := C.2.2.2.1
  have hts := C.2.2.2.2.1
  intro n
  induction n with
  | zero =>
    intro σ x1 x2 x4 x5 H locs ls hf
    cases hf
  | succ n ih =>
    intro σ x1 x2 x4 x5 H locs ls hf hP hD hS hl
    rw [f_X12_pairs_b25] at hf
    refine lv_iload hx hb dX12_pairs_25 (lv_at hl 4 rfl) ?_
    refine lv_aload_n hx hb dX12_pairs_27 rfl (lv_at hl 0 rfl) ?_
    refine G_X12_namesMany C hP q_1078 dX12_pairs_28 ?_
    refine lv_icmp_ge (tgt := 118) hx hb dX12_pairs_31 (by decide) (fun c3 => ?_) (fun c3 => ?_)
    · replace hf := ipos c3 hf
      obtain ⟨v4, ev4⟩ : ∃ z : Int32, z = x4 + 1 := ⟨_, rfl⟩
      replace hf := bnd_at ev4 hf
      refine lv_iinc (v := v4) (lv' := [(4, .int v4), (0, .ref (a 0)), (1, .int x1), (2, .long x2), (5, .int x5)]) hx hb dX12_pairs_118 hl (k := 3) rfl (by rw [ev4]; rfl) (by decide) rfl (fun ls hl => ?_)
      refine lv_goto (tgt := 10) hx hb dX12_pairs_121 (by decide) ?_
      exact hk10 _ _ _ _ _ _ _ hf hP hD hS (lv_sub hl [1, 2, 3, 0] rfl)
    · replace hf := ineg c3 hf
      refine lv_aload_n hx hb dX12_pairs_34 rfl (lv_at hl 0 rfl) ?_
      refine lv_iload hx hb dX12_pairs_35 (lv_at hl 3 rfl) ?_
      refine lv_iload hx hb dX12_pairs_37 (lv_at hl 4 rfl) ?_
      obtain ⟨r6, σ7, h5, hf⟩ := bnd2_some hf
      refine vI [] C hP hD hS (c_X12_areTwo h5) mv_X12_areTwo q_1423 rv_X12 dX12_pairs_39 ⟨Nat.le_of_ble_eq_true rfl, Nat.le_of_ble_eq_true rfl⟩ ⟨Nat.zero_le _, Nat.zero_le _⟩ rfl rfl (Nat.le_of_ble_eq_true rfl) hl.1 (fun H locs hP hD hS => ?_)
      refine lv_if_eq (tgt := 112) hx hb dX12_pairs_42 (by decide) (fun c8 => ?_) (fun c8 => ?_)
      · replace hf := ipos c8 hf
        obtain ⟨v9, ev9⟩ : ∃ z : Int32, z = x5 + 1 := ⟨_, rfl⟩
        replace hf := bnd_at ev9 hf
        refine lv_iinc (v := v9) (lv' := [(5, .int v9), (0, .ref (a 0)), (1, .int x1), (2, .long x2), (4, .int x4)]) hx hb dX12_pairs_112 hl (k := 4) rfl (by rw [ev9]; rfl) (by decide) rfl (fun ls hl => ?_)
        refine lv_goto (tgt := 25) hx hb dX12_pairs_115 (by decide) ?_
        exact ih _ _ _ _ _ _ _ _ hf hP hD hS (lv_sub hl [1, 2, 3, 4, 0] rfl)
      · replace hf := ineg c8 hf
        refine lv_aload_n hx hb dX12_pairs_45 rfl (lv_at hl 0 rfl) ?_
        refine lv_iload hx hb dX12_pairs_46 (lv_at hl 3 rfl) ?_
        refine lv_iload hx hb dX12_pairs_48 (lv_at hl 4 rfl) ?_
        obtain ⟨r11, σ12, h10, hf⟩ := bnd2_some hf
        refine vL [] C hP hD hS (c_X12_heardAs h10) mv_X12_heardAs q_1427 rv_X12 dX12_pairs_50 ⟨Nat.le_of_ble_eq_true rfl, Nat.le_of_ble_eq_true rfl⟩ ⟨Nat.zero_le _, Nat.zero_le _⟩ rfl rfl (Nat.le_of_ble_eq_true rfl) hl.1 (fun H locs hP hD hS => ?_)
        refine lv_aload_n hx hb dX12_pairs_53 rfl (lv_at hl 0 rfl) ?_
        refine lv_iload hx hb dX12_pairs_54 (lv_at hl 4 rfl) ?_
        refine lv_iload hx hb dX12_pairs_56 (lv_at hl 3 rfl) ?_
        obtain ⟨r14, σ15, h13, hf⟩ := bnd2_some hf
        refine vL [.long r11] C hP hD hS (c_X12_heardAs h13) mv_X12_heardAs q_1427 rv_X12 dX12_pairs_58 ⟨Nat.le_of_ble_eq_true rfl, Nat.le_of_ble_eq_true rfl⟩ ⟨Nat.zero_le _, Nat.zero_le _⟩ rfl rfl (Nat.le_of_ble_eq_true rfl) hl.1 (fun H locs hP hD hS => ?_)
        refine lv_ladd hx hb dX12_pairs_61 ?_
        refine lv_bipush (v := 6) hx hb dX12_pairs_62 (by decide) ?_
        refine lv_aload_n hx hb dX12_pairs_64 rfl (lv_at hl 0 rfl) ?_
        refine G_X12_longs C hP q_1079 dX12_pairs_65 ?_
        refine lv_iload hx hb dX12_pairs_68 (lv_at hl 3 rfl) ?_
        obtain ⟨h16, hf⟩ := chk_some hf
        refine AL_X12_longs C hP h16 dX12_pairs_70 ?_
        refine lv_isub hx hb dX12_pairs_71 ?_
        obtain ⟨r18, h17, hf⟩ := bnd1_some hf
        refine tL [.long (r11 + r14)] C hP hD hS (c_X12_powerOf h17) ms_X12_powerOf q_1400 dX12_pairs_72 ⟨Nat.le_of_ble_eq_true rfl, Nat.le_of_ble_eq_true rfl⟩ ⟨Nat.zero_le _, Nat.zero_le _⟩ rfl rfl (Nat.le_of_ble_eq_true rfl) hl.1 (fun H locs hP hD hS => ?_)
        refine lv_lmul hx hb dX12_pairs_75 ?_
        refine lv_topl (fun v19 ev19 => ?_)
        replace hf := bnd_at ev19 hf
        refine lv_lstore (lv' := [(6, .long v19), (0, .ref (a 0)), (1, .int x1), (2, .long x2), (4, .int x4), (5, .int x5)]) hx hb dX12_pairs_76 hl (by decide) rfl (fun ls hl => ?_)
        refine lv_lload hx hb dX12_pairs_78 (lv_at hl 0 rfl) ?_
        refine lv_lload_n hx hb dX12_pairs_80 rfl (lv_at hl 3 rfl) ?_
        refine lb_le (tgt := 96) hx hb dX12_pairs_81 dX12_pairs_82 (by decide) (fun c20 => ?_) (fun c20 => ?_)
        · replace hf := ipos c20 hf
          refine lv_iload_n hx hb dX12_pairs_96 rfl (lv_at hl 2 rfl) ?_
          exact w_X12_pairs_b97 C hQ hk10 ih _ _ _ _ _ _ _ _ _ hf hP hD hS (lv_sub hl [1, 3, 4, 5, 0] rfl)
        · replace hf := ineg c20 hf
          refine lv_bipush (v := 10) hx hb dX12_pairs_85 (by decide) ?_
          refine lv_iload hx hb dX12_pairs_87 (lv_at hl 4 rfl) ?_
          refine lv_imul hx hb dX12_pairs_89 ?_
          refine lv_iload hx hb dX12_pairs_90 (lv_at hl 5 rfl) ?_
          refine lv_iadd hx hb dX12_pairs_92 ?_
          refine lv_goto (tgt := 97) hx hb dX12_pairs_93 (by decide) ?_
          exact w_X12_pairs_b97 C hQ hk10 ih _ _ _ _ _ _ _ _ _ hf hP hD hS (lv_sub hl [1, 3, 4, 5, 0] rfl)
set_option maxHeartbeats 4000000 in
set_option maxRecDepth 100000 in
theorem w_X12_pairs_b10 {p : Program} {l : Launch} {e : Env} {s : State} {m : MethodId} {args : Array Value} {below : List Frame} {meth : Method} {c : Code} {g : va_G} {ts : ClassId × ClassId × ClassId} {A : Nat → Prop} {Q : State → Prop} {a : Nat → Nat} {r : Int32} {σ' : St} (C : FX p s m args meth c RX12 cX12_pairs 8 g ts A) (hQ : RetI p l e (rk 102 2207) s m args below meth c cX12_pairs g (WM ts a) A r σ' Q) : ∀ (n : Nat) (σ : St) (x1 : Int32) (x2 : Int64) (x4 : Int32) (H : Heap) (locs : List Loc) (ls : Array Slot), f_X12_pairs_b10 n σ x1 x2 x4 = some (r, σ') → va_P g classes (WM ts a σ) H → va_D A (WM ts a σ) → va_S A s.heap H locs → lv_has ls 8 [(0, .ref (a 0)), (1, .int x1), (2, .long x2), (4, .int x4)] → W p l e (rk 102 2207) s m args below meth c H locs 0 0 Q (F0 m 10 ls []) := by
  have hx := C.1
  have hb := C.2.1
  have hown := C.2.2.2.1
  have hts := C.2.2.2.2.1
  intro n
  induction n with
  | zero =>
    intro σ x1 x2 x4 H locs ls hf
    cases hf
  | succ n ih =>
    intro σ x1 x2 x4 H locs ls hf hP hD hS hl
    rw [f_X12_pairs_b10] at hf
    refine lv_iload hx hb dX12_pairs_10 (lv_at hl 3 rfl) ?_
    refine lv_aload_n hx hb dX12_pairs_12 rfl (lv_at hl 0 rfl) ?_
    refine G_X12_namesMany C hP q_1078 dX12_pairs_13 ?_
    refine lv_icmp_ge (tgt := 124) hx hb dX12_pairs_16 (by decide) (fun c1 => ?_) (fun c1 => ?_)
    · replace hf := ipos c1 hf
      refine lv_iload_n hx hb dX12_pairs_124 rfl (lv_at hl 1 rfl) ?_
      exact retI hQ hf dX12_pairs_125 hP hD hS
    · replace hf := ineg c1 hf
      refine lv_iload hx hb dX12_pairs_19 (lv_at hl 3 rfl) ?_
      refine lv_iconst (v := 1) hx hb dX12_pairs_21 (by decide) ?_
      refine lv_iadd hx hb dX12_pairs_22 ?_
      refine lv_topi (fun v2 ev2 => ?_)
      replace hf := bnd_at ev2 hf
      refine lv_istore (lv' := [(5, .int v2), (0, .ref (a 0)), (1, .int x1), (2, .long x2), (4, .int x4)]) hx hb dX12_pairs_23 hl (by decide) rfl (fun ls hl => ?_)
      exact w_X12_pairs_b25 C hQ ih 256 _ _ _ _ _ _ _ _ hf hP hD hS (lv_sub hl [1, 2, 3, 4, 0] rfl)
set_option maxHeartbeats 4000000 in
set_option maxRecDepth 100000 in
theorem c_X12_pairs {l : Launch} {g : va_G} {ts : ClassId × ClassId × ClassId} {a : Nat → Nat} {σ : St} {r : Int32} {σ' : St} (hf : f_X12_pairs σ = some (r, σ')) : ConI l g ts (WM ts a) yX12_pairs cX12_pairs 8 (some .int) (rk 102 2207) σ [.ref (a 0)] r σ' := by
  refine ConI_mk .int rfl rfl rfl rfl (by decide) (Nat.le_of_ble_eq_true rfl) ?_
  intro p e s m below meth c A Q ls C hQ hP hD hS hl
  have C : FX p s m _ meth c RX12 cX12_pairs 8 g ts A := C
  have hx := C.1
  have hb := C.2.1
  have hown := C.2.2.2.1
  have hts := C.2.2.2.2.1
  have hl : lv_has ls 8 [(0, .ref (a 0))] := hl
  rw [f_X12_pairs] at hf
  refine lv_bipush (v := -2) hx hb dX12_pairs_0 (by decide) ?_
  refine lv_istore_n (lv' := [(1, .int (-2 : Int32)), (0, .ref (a 0))]) hx hb dX12_pairs_2 rfl hl (by decide) rfl (fun ls hl => ?_)
  refine lv_ldc2 hx hb hown (hts _ q_1379) dX12_pairs_3 ?_
  refine lv_lstore_n (lv' := [(2, .long (-1 : Int64)), (1, .int (-2 : Int32)), (0, .ref (a 0))]) hx hb dX12_pairs_6 rfl hl (by decide) rfl (fun ls hl => ?_)
  refine lv_iconst (v := 0) hx hb dX12_pairs_7 (by decide) ?_
  refine lv_istore (lv' := [(4, .int (0 : Int32)), (2, .long (-1 : Int64)), (1, .int (-2 : Int32)), (0, .ref (a 0))]) hx hb dX12_pairs_8 hl (by decide) rfl (fun ls hl => ?_)
  exact w_X12_pairs_b10 C hQ 256 _ _ _ _ _ _ _ hf hP hD hS (lv_sub hl [3, 2, 1, 0] rfl)
theorem dX12_figuresOf_0 : decode cX12_figuresOf 0 = .ok (.iconst 0, 1) := by decide +kernel
theorem dX12_figuresOf_1 : decode cX12_figuresOf 1 = .ok (.istore_n 2, 1) := by decide +kernel
theorem dX12_figuresOf_2 : decode cX12_figuresOf 2 = .ok (.iload_n 2, 1) := by decide +kernel
theorem dX12_figuresOf_3 : decode cX12_figuresOf 3 = .ok (.iconst 4, 1) := by decide +kernel
theorem dX12_figuresOf_4 : decode cX12_figuresOf 4 = .ok (.if_icmp .ge 31, 3) := by decide +kernel
theorem dX12_figuresOf_7 : decode cX12_figuresOf 7 = .ok (.iload_n 2, 1) := by decide +kernel
theorem dX12_figuresOf_8 : decode cX12_figuresOf 8 = .ok (.aload_n 0, 1) := by decide +kernel
theorem dX12_figuresOf_9 : decode cX12_figuresOf 9 = .ok (.getfield 67, 3) := by decide +kernel
theorem dX12_figuresOf_12 : decode cX12_figuresOf 12 = .ok (.iload_n 1, 1) := by decide +kernel
theorem dX12_figuresOf_13 : decode cX12_figuresOf 13 = .ok (.iaload, 1) := by decide +kernel
theorem dX12_figuresOf_14 : decode cX12_figuresOf 14 = .ok (.if_icmp .ge 21, 3) := by decide +kernel
theorem dX12_figuresOf_17 : decode cX12_figuresOf 17 = .ok (.aload_n 0, 1) := by decide +kernel
theorem dX12_figuresOf_18 : decode cX12_figuresOf 18 = .ok (.iload_n 1, 1) := by decide +kernel
theorem dX12_figuresOf_19 : decode cX12_figuresOf 19 = .ok (.iload_n 2, 1) := by decide +kernel
theorem dX12_figuresOf_20 : decode cX12_figuresOf 20 = .ok (.invokevirtual 108, 3) := by decide +kernel
theorem dX12_figuresOf_23 : decode cX12_figuresOf 23 = .ok (.invokestatic 112, 3) := by decide +kernel
theorem dX12_figuresOf_26 : decode cX12_figuresOf 26 = .ok (.ifCond .eq 9, 3) := by decide +kernel
theorem dX12_figuresOf_29 : decode cX12_figuresOf 29 = .ok (.iinc 2 1, 3) := by decide +kernel
theorem dX12_figuresOf_32 : decode cX12_figuresOf 32 = .ok (.goto (-30), 3) := by decide +kernel
theorem dX12_figuresOf_35 : decode cX12_figuresOf 35 = .ok (.iload_n 2, 1) := by decide +kernel
theorem dX12_figuresOf_36 : decode cX12_figuresOf 36 = .ok (.ireturn, 1) := by decide +kernel
def f_X12_figuresOf_b2 : Nat → St → Int32 → Int32 → Option (Int32 × St)
  | 0, _, _, _ => none
  | n + 1, σ, x1, x2 => if (4 : Int32) ≤ x2 then (some (x2, σ)) else (chk (x1 < 0 ∨ 6 ≤ x1.toNatClampNeg) (if σ.2.2.1 640 0 x1.toNatClampNeg ≤ x2 then (some (x2, σ)) else (bnd2 (f_X12_itemAt σ x1 x2) (fun r5 σ6 => bnd1 (f_X12_isLetter r5) (fun r8 => if r8 = 0 then (some (x2, σ6)) else (bnd (x2 + 1) (fun v10 => f_X12_figuresOf_b2 n σ6 x1 v10)))))))
def f_X12_figuresOf (σ : St) (p1 : Int32) : Option (Int32 × St) := f_X12_figuresOf_b2 256 σ p1 (0 : Int32)
set_option maxHeartbeats 4000000 in
set_option maxRecDepth 100000 in
theorem w_X12_figuresOf_b2 {p : Program} {l : Launch} {e : Env} {s : State} {m : MethodId} {args : Array Value} {below : List Frame} {meth : Method} {c : Code} {g : va_G} {ts : ClassId × ClassId × ClassId} {A : Nat → Prop} {Q : State → Prop} {a : Nat → Nat} {r : Int32} {σ' : St} (C : FX p s m args meth c RX12 cX12_figuresOf 3 g ts A) (hQ : RetI p l e (rk 2 46) s m args below meth c cX12_figuresOf g (WM ts a) A r σ' Q) : ∀ (n : Nat) (σ : St) (x1 : Int32) (x2 : Int32) (H : Heap) (locs : List Loc) (ls : Array Slot), f_X12_figuresOf_b2 n σ x1 x2 = some (r, σ') → va_P g classes (WM ts a σ) H → va_D A (WM ts a σ) → va_S A s.heap H locs → lv_has ls 3 [(0, .ref (a 0)), (1, .int x1), (2, .int x2)] → W p l e (rk 2 46) s m args below meth c H locs 0 0 Q (F0 m 2 ls []) := by
  have hx := C.1
  have hb := C.2.1
  have hown := C.2.2.2.1
  have hts := C.2.2.2.2.1
  intro n
  induction n with
  | zero =>
    intro σ x1 x2 H locs ls hf
    cases hf
  | succ n ih =>
    intro σ x1 x2 H locs ls hf hP hD hS hl
    rw [f_X12_figuresOf_b2] at hf
    refine lv_iload_n hx hb dX12_figuresOf_2 rfl (lv_at hl 2 rfl) ?_
    refine lv_iconst (v := 4) hx hb dX12_figuresOf_3 (by decide) ?_
    refine lv_icmp_ge (tgt := 35) hx hb dX12_figuresOf_4 (by decide) (fun c1 => ?_) (fun c1 => ?_)
    · replace hf := ipos c1 hf
      refine lv_iload_n hx hb dX12_figuresOf_35 rfl (lv_at hl 2 rfl) ?_
      exact retI hQ hf dX12_figuresOf_36 hP hD hS
    · replace hf := ineg c1 hf
      refine lv_iload_n hx hb dX12_figuresOf_7 rfl (lv_at hl 2 rfl) ?_
      refine lv_aload_n hx hb dX12_figuresOf_8 rfl (lv_at hl 0 rfl) ?_
      refine G_X12_many C hP q_1112 dX12_figuresOf_9 ?_
      refine lv_iload_n hx hb dX12_figuresOf_12 rfl (lv_at hl 1 rfl) ?_
      obtain ⟨h2, hf⟩ := chk_some hf
      refine AL_X12_many C hP h2 dX12_figuresOf_13 ?_
      refine lv_icmp_ge (tgt := 35) hx hb dX12_figuresOf_14 (by decide) (fun c3 => ?_) (fun c3 => ?_)
      · replace hf := ipos c3 hf
        refine lv_iload_n hx hb dX12_figuresOf_35 rfl (lv_at hl 2 rfl) ?_
        exact retI hQ hf dX12_figuresOf_36 hP hD hS
      · replace hf := ineg c3 hf
        refine lv_aload_n hx hb dX12_figuresOf_17 rfl (lv_at hl 0 rfl) ?_
        refine lv_iload_n hx hb dX12_figuresOf_18 rfl (lv_at hl 1 rfl) ?_
        refine lv_iload_n hx hb dX12_figuresOf_19 rfl (lv_at hl 2 rfl) ?_
        obtain ⟨r5, σ6, h4, hf⟩ := bnd2_some hf
        refine vL [] C hP hD hS (c_X12_itemAt h4) mv_X12_itemAt q_1226 rv_X12 dX12_figuresOf_20 ⟨Nat.le_of_ble_eq_true rfl, Nat.le_of_ble_eq_true rfl⟩ ⟨Nat.zero_le _, Nat.zero_le _⟩ rfl rfl (Nat.le_of_ble_eq_true rfl) hl.1 (fun H locs hP hD hS => ?_)
        obtain ⟨r8, h7, hf⟩ := bnd1_some hf
        refine tI [] C hP hD hS (c_X12_isLetter h7) ms_X12_isLetter q_1230 dX12_figuresOf_23 ⟨Nat.le_of_ble_eq_true rfl, Nat.le_of_ble_eq_true rfl⟩ ⟨Nat.zero_le _, Nat.zero_le _⟩ rfl rfl (Nat.le_of_ble_eq_true rfl) hl.1 (fun H locs hP hD hS => ?_)
        refine lv_if_eq (tgt := 35) hx hb dX12_figuresOf_26 (by decide) (fun c9 => ?_) (fun c9 => ?_)
        · replace hf := ipos c9 hf
          refine lv_iload_n hx hb dX12_figuresOf_35 rfl (lv_at hl 2 rfl) ?_
          exact retI hQ hf dX12_figuresOf_36 hP hD hS
        · replace hf := ineg c9 hf
          obtain ⟨v10, ev10⟩ : ∃ z : Int32, z = x2 + 1 := ⟨_, rfl⟩
          replace hf := bnd_at ev10 hf
          refine lv_iinc (v := v10) (lv' := [(2, .int v10), (0, .ref (a 0)), (1, .int x1)]) hx hb dX12_figuresOf_29 hl (k := 2) rfl (by rw [ev10]; rfl) (by decide) rfl (fun ls hl => ?_)
          refine lv_goto (tgt := 2) hx hb dX12_figuresOf_32 (by decide) ?_
          exact ih _ _ _ _ _ _ hf hP hD hS (lv_sub hl [1, 2, 0] rfl)
set_option maxHeartbeats 4000000 in
set_option maxRecDepth 100000 in
theorem c_X12_figuresOf {l : Launch} {g : va_G} {ts : ClassId × ClassId × ClassId} {a : Nat → Nat} {σ : St} {p1 : Int32} {r : Int32} {σ' : St} (hf : f_X12_figuresOf σ p1 = some (r, σ')) : ConI l g ts (WM ts a) yX12_figuresOf cX12_figuresOf 3 (some .int) (rk 2 46) σ [.ref (a 0), .int p1] r σ' := by
  refine ConI_mk .int rfl rfl rfl rfl (by decide) (Nat.le_of_ble_eq_true rfl) ?_
  intro p e s m below meth c A Q ls C hQ hP hD hS hl
  have C : FX p s m _ meth c RX12 cX12_figuresOf 3 g ts A := C
  have hx := C.1
  have hb := C.2.1
  have hown := C.2.2.2.1
  have hts := C.2.2.2.2.1
  have hl : lv_has ls 3 [(0, .ref (a 0)), (1, .int p1)] := hl
  rw [f_X12_figuresOf] at hf
  refine lv_iconst (v := 0) hx hb dX12_figuresOf_0 (by decide) ?_
  refine lv_istore_n (lv' := [(2, .int (0 : Int32)), (0, .ref (a 0)), (1, .int p1)]) hx hb dX12_figuresOf_1 rfl hl (by decide) rfl (fun ls hl => ?_)
  exact w_X12_figuresOf_b2 C hQ 256 _ _ _ _ _ _ hf hP hD hS (lv_sub hl [1, 2, 0] rfl)
theorem dX12_sums_0 : decode cX12_sums 0 = .ok (.aload_n 0, 1) := by decide +kernel
theorem dX12_sums_1 : decode cX12_sums 1 = .ok (.iload_n 1, 1) := by decide +kernel
theorem dX12_sums_2 : decode cX12_sums 2 = .ok (.invokevirtual 104, 3) := by decide +kernel
theorem dX12_sums_5 : decode cX12_sums 5 = .ok (.iconst 1, 1) := by decide +kernel
theorem dX12_sums_6 : decode cX12_sums 6 = .ok (.if_icmp .ne 25, 3) := by decide +kernel
theorem dX12_sums_9 : decode cX12_sums 9 = .ok (.iload_n 2, 1) := by decide +kernel
theorem dX12_sums_10 : decode cX12_sums 10 = .ok (.i2l, 1) := by decide +kernel
theorem dX12_sums_11 : decode cX12_sums 11 = .ok (.lconst 0, 1) := by decide +kernel
theorem dX12_sums_12 : decode cX12_sums 12 = .ok (.ldc2_w 256, 3) := by decide +kernel
theorem dX12_sums_15 : decode cX12_sums 15 = .ok (.invokestatic 91, 3) := by decide +kernel
theorem dX12_sums_18 : decode cX12_sums 18 = .ok (.ifCond .eq 13, 3) := by decide +kernel
theorem dX12_sums_21 : decode cX12_sums 21 = .ok (.iload_n 3, 1) := by decide +kernel
theorem dX12_sums_22 : decode cX12_sums 22 = .ok (.i2l, 1) := by decide +kernel
theorem dX12_sums_23 : decode cX12_sums 23 = .ok (.lconst 0, 1) := by decide +kernel
theorem dX12_sums_24 : decode cX12_sums 24 = .ok (.lconst 1, 1) := by decide +kernel
theorem dX12_sums_25 : decode cX12_sums 25 = .ok (.invokestatic 91, 3) := by decide +kernel
theorem dX12_sums_28 : decode cX12_sums 28 = .ok (.ifCond .ne 7, 3) := by decide +kernel
theorem dX12_sums_31 : decode cX12_sums 31 = .ok (.ldc2_w 200, 3) := by decide +kernel
theorem dX12_sums_34 : decode cX12_sums 34 = .ok (.lreturn, 1) := by decide +kernel
theorem dX12_sums_35 : decode cX12_sums 35 = .ok (.aload_n 0, 1) := by decide +kernel
theorem dX12_sums_36 : decode cX12_sums 36 = .ok (.iload_n 1, 1) := by decide +kernel
theorem dX12_sums_37 : decode cX12_sums 37 = .ok (.invokevirtual 258, 3) := by decide +kernel
theorem dX12_sums_40 : decode cX12_sums 40 = .ok (.istore 4, 2) := by decide +kernel
theorem dX12_sums_42 : decode cX12_sums 42 = .ok (.iconst 0, 1) := by decide +kernel
theorem dX12_sums_43 : decode cX12_sums 43 = .ok (.istore 5, 2) := by decide +kernel
theorem dX12_sums_45 : decode cX12_sums 45 = .ok (.iload 5, 2) := by decide +kernel
theorem dX12_sums_47 : decode cX12_sums 47 = .ok (.bipush 120, 2) := by decide +kernel
theorem dX12_sums_49 : decode cX12_sums 49 = .ok (.if_icmp .ge 26, 3) := by decide +kernel
theorem dX12_sums_52 : decode cX12_sums 52 = .ok (.aload_n 0, 1) := by decide +kernel
theorem dX12_sums_53 : decode cX12_sums 53 = .ok (.getfield 46, 3) := by decide +kernel
theorem dX12_sums_56 : decode cX12_sums 56 = .ok (.iload 5, 2) := by decide +kernel
theorem dX12_sums_58 : decode cX12_sums 58 = .ok (.iload 5, 2) := by decide +kernel
theorem dX12_sums_60 : decode cX12_sums 60 = .ok (.ifCond .ne 7, 3) := by decide +kernel
theorem dX12_sums_63 : decode cX12_sums 63 = .ok (.lconst 1, 1) := by decide +kernel
theorem dX12_sums_64 : decode cX12_sums 64 = .ok (.goto 4, 3) := by decide +kernel
theorem dX12_sums_67 : decode cX12_sums 67 = .ok (.lconst 0, 1) := by decide +kernel
theorem dX12_sums_68 : decode cX12_sums 68 = .ok (.lastore, 1) := by decide +kernel
theorem dX12_sums_69 : decode cX12_sums 69 = .ok (.iinc 5 1, 3) := by decide +kernel
theorem dX12_sums_72 : decode cX12_sums 72 = .ok (.goto (-27), 3) := by decide +kernel
theorem dX12_sums_75 : decode cX12_sums 75 = .ok (.iconst 0, 1) := by decide +kernel
theorem dX12_sums_76 : decode cX12_sums 76 = .ok (.istore 5, 2) := by decide +kernel
theorem dX12_sums_78 : decode cX12_sums 78 = .ok (.iload 5, 2) := by decide +kernel
theorem dX12_sums_80 : decode cX12_sums 80 = .ok (.iload 4, 2) := by decide +kernel
theorem dX12_sums_82 : decode cX12_sums 82 = .ok (.if_icmp .ge 147, 3) := by decide +kernel
theorem dX12_sums_85 : decode cX12_sums 85 = .ok (.iconst 0, 1) := by decide +kernel
theorem dX12_sums_86 : decode cX12_sums 86 = .ok (.istore 6, 2) := by decide +kernel
theorem dX12_sums_88 : decode cX12_sums 88 = .ok (.iload 6, 2) := by decide +kernel
theorem dX12_sums_90 : decode cX12_sums 90 = .ok (.bipush 60, 2) := by decide +kernel
theorem dX12_sums_92 : decode cX12_sums 92 = .ok (.if_icmp .ge 20, 3) := by decide +kernel
theorem dX12_sums_95 : decode cX12_sums 95 = .ok (.aload_n 0, 1) := by decide +kernel
theorem dX12_sums_96 : decode cX12_sums 96 = .ok (.getfield 46, 3) := by decide +kernel
theorem dX12_sums_99 : decode cX12_sums 99 = .ok (.bipush 60, 2) := by decide +kernel
theorem dX12_sums_101 : decode cX12_sums 101 = .ok (.iload 6, 2) := by decide +kernel
theorem dX12_sums_103 : decode cX12_sums 103 = .ok (.iadd, 1) := by decide +kernel
theorem dX12_sums_104 : decode cX12_sums 104 = .ok (.lconst 0, 1) := by decide +kernel
theorem dX12_sums_105 : decode cX12_sums 105 = .ok (.lastore, 1) := by decide +kernel
theorem dX12_sums_106 : decode cX12_sums 106 = .ok (.iinc 6 1, 3) := by decide +kernel
theorem dX12_sums_109 : decode cX12_sums 109 = .ok (.goto (-21), 3) := by decide +kernel
theorem dX12_sums_112 : decode cX12_sums 112 = .ok (.iconst 0, 1) := by decide +kernel
theorem dX12_sums_113 : decode cX12_sums 113 = .ok (.istore 6, 2) := by decide +kernel
theorem dX12_sums_115 : decode cX12_sums 115 = .ok (.iload 6, 2) := by decide +kernel
theorem dX12_sums_117 : decode cX12_sums 117 = .ok (.bipush 12, 2) := by decide +kernel
theorem dX12_sums_119 : decode cX12_sums 119 = .ok (.if_icmp .ge 71, 3) := by decide +kernel
theorem dX12_sums_122 : decode cX12_sums 122 = .ok (.aload_n 0, 1) := by decide +kernel
theorem dX12_sums_123 : decode cX12_sums 123 = .ok (.iload 6, 2) := by decide +kernel
theorem dX12_sums_125 : decode cX12_sums 125 = .ok (.aload_n 0, 1) := by decide +kernel
theorem dX12_sums_126 : decode cX12_sums 126 = .ok (.iload_n 1, 1) := by decide +kernel
theorem dX12_sums_127 : decode cX12_sums 127 = .ok (.iload 5, 2) := by decide +kernel
theorem dX12_sums_129 : decode cX12_sums 129 = .ok (.invokevirtual 108, 3) := by decide +kernel
theorem dX12_sums_132 : decode cX12_sums 132 = .ok (.iconst 0, 1) := by decide +kernel
theorem dX12_sums_133 : decode cX12_sums 133 = .ok (.invokevirtual 206, 3) := by decide +kernel
theorem dX12_sums_136 : decode cX12_sums 136 = .ok (.istore 7, 2) := by decide +kernel
theorem dX12_sums_138 : decode cX12_sums 138 = .ok (.iconst 0, 1) := by decide +kernel
theorem dX12_sums_139 : decode cX12_sums 139 = .ok (.istore 8, 2) := by decide +kernel
theorem dX12_sums_141 : decode cX12_sums 141 = .ok (.iload 8, 2) := by decide +kernel
theorem dX12_sums_143 : decode cX12_sums 143 = .ok (.iload 6, 2) := by decide +kernel
theorem dX12_sums_145 : decode cX12_sums 145 = .ok (.iadd, 1) := by decide +kernel
theorem dX12_sums_146 : decode cX12_sums 146 = .ok (.bipush 60, 2) := by decide +kernel
theorem dX12_sums_148 : decode cX12_sums 148 = .ok (.if_icmp .ge 36, 3) := by decide +kernel
theorem dX12_sums_151 : decode cX12_sums 151 = .ok (.aload_n 0, 1) := by decide +kernel
theorem dX12_sums_152 : decode cX12_sums 152 = .ok (.getfield 46, 3) := by decide +kernel
theorem dX12_sums_155 : decode cX12_sums 155 = .ok (.bipush 60, 2) := by decide +kernel
theorem dX12_sums_157 : decode cX12_sums 157 = .ok (.iload 8, 2) := by decide +kernel
theorem dX12_sums_159 : decode cX12_sums 159 = .ok (.iadd, 1) := by decide +kernel
theorem dX12_sums_160 : decode cX12_sums 160 = .ok (.iload 6, 2) := by decide +kernel
theorem dX12_sums_162 : decode cX12_sums 162 = .ok (.iadd, 1) := by decide +kernel
theorem dX12_sums_163 : decode cX12_sums 163 = .ok (.dup2, 1) := by decide +kernel
theorem dX12_sums_164 : decode cX12_sums 164 = .ok (.laload, 1) := by decide +kernel
theorem dX12_sums_165 : decode cX12_sums 165 = .ok (.aload_n 0, 1) := by decide +kernel
theorem dX12_sums_166 : decode cX12_sums 166 = .ok (.getfield 46, 3) := by decide +kernel
theorem dX12_sums_169 : decode cX12_sums 169 = .ok (.iload 8, 2) := by decide +kernel
theorem dX12_sums_171 : decode cX12_sums 171 = .ok (.laload, 1) := by decide +kernel
theorem dX12_sums_172 : decode cX12_sums 172 = .ok (.iload 7, 2) := by decide +kernel
theorem dX12_sums_174 : decode cX12_sums 174 = .ok (.i2l, 1) := by decide +kernel
theorem dX12_sums_175 : decode cX12_sums 175 = .ok (.lmul, 1) := by decide +kernel
theorem dX12_sums_176 : decode cX12_sums 176 = .ok (.ladd, 1) := by decide +kernel
theorem dX12_sums_177 : decode cX12_sums 177 = .ok (.lastore, 1) := by decide +kernel
theorem dX12_sums_178 : decode cX12_sums 178 = .ok (.iinc 8 1, 3) := by decide +kernel
theorem dX12_sums_181 : decode cX12_sums 181 = .ok (.goto (-40), 3) := by decide +kernel
theorem dX12_sums_184 : decode cX12_sums 184 = .ok (.iinc 6 1, 3) := by decide +kernel
theorem dX12_sums_187 : decode cX12_sums 187 = .ok (.goto (-72), 3) := by decide +kernel
theorem dX12_sums_190 : decode cX12_sums 190 = .ok (.iconst 0, 1) := by decide +kernel
theorem dX12_sums_191 : decode cX12_sums 191 = .ok (.istore 6, 2) := by decide +kernel
theorem dX12_sums_193 : decode cX12_sums 193 = .ok (.iload 6, 2) := by decide +kernel
theorem dX12_sums_195 : decode cX12_sums 195 = .ok (.bipush 60, 2) := by decide +kernel
theorem dX12_sums_197 : decode cX12_sums 197 = .ok (.if_icmp .ge 26, 3) := by decide +kernel
theorem dX12_sums_200 : decode cX12_sums 200 = .ok (.aload_n 0, 1) := by decide +kernel
theorem dX12_sums_201 : decode cX12_sums 201 = .ok (.getfield 46, 3) := by decide +kernel
theorem dX12_sums_204 : decode cX12_sums 204 = .ok (.iload 6, 2) := by decide +kernel
theorem dX12_sums_206 : decode cX12_sums 206 = .ok (.aload_n 0, 1) := by decide +kernel
theorem dX12_sums_207 : decode cX12_sums 207 = .ok (.getfield 46, 3) := by decide +kernel
theorem dX12_sums_210 : decode cX12_sums 210 = .ok (.bipush 60, 2) := by decide +kernel
theorem dX12_sums_212 : decode cX12_sums 212 = .ok (.iload 6, 2) := by decide +kernel
theorem dX12_sums_214 : decode cX12_sums 214 = .ok (.iadd, 1) := by decide +kernel
theorem dX12_sums_215 : decode cX12_sums 215 = .ok (.laload, 1) := by decide +kernel
theorem dX12_sums_216 : decode cX12_sums 216 = .ok (.lastore, 1) := by decide +kernel
theorem dX12_sums_217 : decode cX12_sums 217 = .ok (.iinc 6 1, 3) := by decide +kernel
theorem dX12_sums_220 : decode cX12_sums 220 = .ok (.goto (-27), 3) := by decide +kernel
theorem dX12_sums_223 : decode cX12_sums 223 = .ok (.iinc 5 1, 3) := by decide +kernel
theorem dX12_sums_226 : decode cX12_sums 226 = .ok (.goto (-148), 3) := by decide +kernel
theorem dX12_sums_229 : decode cX12_sums 229 = .ok (.lconst 0, 1) := by decide +kernel
theorem dX12_sums_230 : decode cX12_sums 230 = .ok (.lstore 5, 2) := by decide +kernel
theorem dX12_sums_232 : decode cX12_sums 232 = .ok (.iconst 0, 1) := by decide +kernel
theorem dX12_sums_233 : decode cX12_sums 233 = .ok (.istore 7, 2) := by decide +kernel
theorem dX12_sums_235 : decode cX12_sums 235 = .ok (.iload 7, 2) := by decide +kernel
theorem dX12_sums_237 : decode cX12_sums 237 = .ok (.bipush 60, 2) := by decide +kernel
theorem dX12_sums_239 : decode cX12_sums 239 = .ok (.if_icmp .ge 21, 3) := by decide +kernel
theorem dX12_sums_242 : decode cX12_sums 242 = .ok (.lload 5, 2) := by decide +kernel
theorem dX12_sums_244 : decode cX12_sums 244 = .ok (.aload_n 0, 1) := by decide +kernel
theorem dX12_sums_245 : decode cX12_sums 245 = .ok (.getfield 46, 3) := by decide +kernel
theorem dX12_sums_248 : decode cX12_sums 248 = .ok (.iload 7, 2) := by decide +kernel
theorem dX12_sums_250 : decode cX12_sums 250 = .ok (.laload, 1) := by decide +kernel
theorem dX12_sums_251 : decode cX12_sums 251 = .ok (.ladd, 1) := by decide +kernel
theorem dX12_sums_252 : decode cX12_sums 252 = .ok (.lstore 5, 2) := by decide +kernel
theorem dX12_sums_254 : decode cX12_sums 254 = .ok (.iinc 7 1, 3) := by decide +kernel
theorem dX12_sums_257 : decode cX12_sums 257 = .ok (.goto (-22), 3) := by decide +kernel
theorem dX12_sums_260 : decode cX12_sums 260 = .ok (.lload 5, 2) := by decide +kernel
theorem dX12_sums_262 : decode cX12_sums 262 = .ok (.lconst 0, 1) := by decide +kernel
theorem dX12_sums_263 : decode cX12_sums 263 = .ok (.lcmp, 1) := by decide +kernel
theorem dX12_sums_264 : decode cX12_sums 264 = .ok (.ifCond .ne 9, 3) := by decide +kernel
theorem dX12_sums_267 : decode cX12_sums 267 = .ok (.ldc2_w 217, 3) := by decide +kernel
theorem dX12_sums_270 : decode cX12_sums 270 = .ok (.goto 15, 3) := by decide +kernel
theorem dX12_sums_273 : decode cX12_sums 273 = .ok (.aload_n 0, 1) := by decide +kernel
theorem dX12_sums_274 : decode cX12_sums 274 = .ok (.getfield 46, 3) := by decide +kernel
theorem dX12_sums_277 : decode cX12_sums 277 = .ok (.iload_n 2, 1) := by decide +kernel
theorem dX12_sums_278 : decode cX12_sums 278 = .ok (.laload, 1) := by decide +kernel
theorem dX12_sums_279 : decode cX12_sums 279 = .ok (.lload 5, 2) := by decide +kernel
theorem dX12_sums_281 : decode cX12_sums 281 = .ok (.iload_n 3, 1) := by decide +kernel
theorem dX12_sums_282 : decode cX12_sums 282 = .ok (.invokestatic 202, 3) := by decide +kernel
theorem dX12_sums_285 : decode cX12_sums 285 = .ok (.lreturn, 1) := by decide +kernel
def f_X12_sums_b68 (k45 : St → Int32 → Int32 → Int32 → Int32 → Int32 → Option (Int64 × St)) (σ : St) (x1 : Int32) (x2 : Int32) (x3 : Int32) (x4 : Int32) (x5 : Int32) (s0 : Int64) (s1 : Int32) : Option (Int64 × St) := chk (s1 < 0 ∨ 120 ≤ s1.toNatClampNeg) (bnd (sL σ 621 0 (vp_updL (σ.2.2.2.1 621 0) s1.toNatClampNeg s0)) (fun σ18 => bnd (x5 + 1) (fun v19 => k45 σ18 x1 x2 x3 x4 v19)))
def f_X12_sums_b141 (k78 : St → Int32 → Int32 → Int32 → Int32 → Int32 → Option (Int64 × St)) (k115 : St → Int32 → Int32 → Int32 → Int32 → Int32 → Int32 → Option (Int64 × St)) : Nat → St → Int32 → Int32 → Int32 → Int32 → Int32 → Int32 → Int32 → Int32 → Option (Int64 × St)
  | 0, _, _, _, _, _, _, _, _, _ => none
  | n + 1, σ, x1, x2, x3, x4, x5, x6, x7, x8 => if (60 : Int32) ≤ x8 + x6 then (bnd (x6 + 1) (fun v46 => k115 σ x1 x2 x3 x4 x5 v46)) else (chk (((60 : Int32) + x8) + x6 < 0 ∨ 120 ≤ (((60 : Int32) + x8) + x6).toNatClampNeg) (chk (x8 < 0 ∨ 120 ≤ x8.toNatClampNeg) (chk (((60 : Int32) + x8) + x6 < 0 ∨ 120 ≤ (((60 : Int32) + x8) + x6).toNatClampNeg) (bnd (sL σ 621 0 (vp_updL (σ.2.2.2.1 621 0) (((60 : Int32) + x8) + x6).toNatClampNeg ((σ.2.2.2.1 621 0 (((60 : Int32) + x8) + x6).toNatClampNeg) + ((σ.2.2.2.1 621 0 x8.toNatClampNeg) * ((x7 : Int32).toInt64))))) (fun σ50 => bnd (x8 + 1) (fun v51 => f_X12_sums_b141 k78 k115 n σ50 x1 x2 x3 x4 x5 x6 x7 v51))))))
def f_X12_sums_b193 (k78 : St → Int32 → Int32 → Int32 → Int32 → Int32 → Option (Int64 × St)) : Nat → St → Int32 → Int32 → Int32 → Int32 → Int32 → Int32 → Option (Int64 × St)
  | 0, _, _, _, _, _, _, _ => none
  | n + 1, σ, x1, x2, x3, x4, x5, x6 => if (60 : Int32) ≤ x6 then (bnd (x5 + 1) (fun v40 => k78 σ x1 x2 x3 x4 v40)) else (chk ((60 : Int32) + x6 < 0 ∨ 120 ≤ ((60 : Int32) + x6).toNatClampNeg) (chk (x6 < 0 ∨ 120 ≤ x6.toNatClampNeg) (bnd (sL σ 621 0 (vp_updL (σ.2.2.2.1 621 0) x6.toNatClampNeg (σ.2.2.2.1 621 0 ((60 : Int32) + x6).toNatClampNeg))) (fun σ43 => bnd (x6 + 1) (fun v44 => f_X12_sums_b193 k78 n σ43 x1 x2 x3 x4 x5 v44)))))
def f_X12_sums_b115 (k78 : St → Int32 → Int32 → Int32 → Int32 → Int32 → Option (Int64 × St)) : Nat → St → Int32 → Int32 → Int32 → Int32 → Int32 → Int32 → Option (Int64 × St)
  | 0, _, _, _, _, _, _, _ => none
  | n + 1, σ, x1, x2, x3, x4, x5, x6 => if (12 : Int32) ≤ x6 then (f_X12_sums_b193 k78 256 σ x1 x2 x3 x4 x5 (0 : Int32)) else (bnd2 (f_X12_itemAt σ x1 x5) (fun r34 σ35 => bnd2 (f_X12_partOfHeard σ35 x6 r34 (0 : Int32)) (fun r37 σ38 => f_X12_sums_b141 k78 (f_X12_sums_b115 k78 n) 256 σ38 x1 x2 x3 x4 x5 x6 r37 (0 : Int32))))
def f_X12_sums_b88 (k78 : St → Int32 → Int32 → Int32 → Int32 → Int32 → Option (Int64 × St)) : Nat → St → Int32 → Int32 → Int32 → Int32 → Int32 → Int32 → Option (Int64 × St)
  | 0, _, _, _, _, _, _, _ => none
  | n + 1, σ, x1, x2, x3, x4, x5, x6 => if (60 : Int32) ≤ x6 then (f_X12_sums_b115 k78 256 σ x1 x2 x3 x4 x5 (0 : Int32)) else (chk ((60 : Int32) + x6 < 0 ∨ 120 ≤ ((60 : Int32) + x6).toNatClampNeg) (bnd (sL σ 621 0 (vp_updL (σ.2.2.2.1 621 0) ((60 : Int32) + x6).toNatClampNeg (0 : Int64))) (fun σ30 => bnd (x6 + 1) (fun v31 => f_X12_sums_b88 k78 n σ30 x1 x2 x3 x4 x5 v31))))
def f_X12_sums_b235 : Nat → St → Int32 → Int32 → Int64 → Int32 → Option (Int64 × St)
  | 0, _, _, _, _, _ => none
  | n + 1, σ, x2, x3, x5, x7 => if (60 : Int32) ≤ x7 then (if x5 = (0 : Int64) then (some ((-2 : Int64), σ)) else (chk (x2 < 0 ∨ 120 ≤ x2.toNatClampNeg) (bnd1 (f_X12_partOf (σ.2.2.2.1 621 0 x2.toNatClampNeg) x5 x3) (fun r24 => some (r24, σ))))) else (chk (x7 < 0 ∨ 120 ≤ x7.toNatClampNeg) (bnd (x5 + (σ.2.2.2.1 621 0 x7.toNatClampNeg)) (fun v26 => bnd (x7 + 1) (fun v27 => f_X12_sums_b235 n σ x2 x3 v26 v27))))
def f_X12_sums_b78 : Nat → St → Int32 → Int32 → Int32 → Int32 → Int32 → Option (Int64 × St)
  | 0, _, _, _, _, _, _ => none
  | n + 1, σ, x1, x2, x3, x4, x5 => if x4 ≤ x5 then (f_X12_sums_b235 256 σ x2 x3 (0 : Int64) (0 : Int32)) else (f_X12_sums_b88 (f_X12_sums_b78 n) 256 σ x1 x2 x3 x4 x5 (0 : Int32))
def f_X12_sums_b45 : Nat → St → Int32 → Int32 → Int32 → Int32 → Int32 → Option (Int64 × St)
  | 0, _, _, _, _, _, _ => none
  | n + 1, σ, x1, x2, x3, x4, x5 => if (120 : Int32) ≤ x5 then (f_X12_sums_b78 256 σ x1 x2 x3 x4 (0 : Int32)) else (if x5 = 0 then (f_X12_sums_b68 (f_X12_sums_b45 n) σ x1 x2 x3 x4 x5 (1 : Int64) x5) else (f_X12_sums_b68 (f_X12_sums_b45 n) σ x1 x2 x3 x4 x5 (0 : Int64) x5))
def f_X12_sums (σ : St) (p1 : Int32) (p2 : Int32) (p3 : Int32) : Option (Int64 × St) := bnd2 (f_X12_bytesIs σ p1) (fun r2 σ3 => if r2 = (1 : Int32) then (bnd1 (f_X12_within ((p2 : Int32).toInt64) (0 : Int64) (44 : Int64)) (fun r6 => if r6 = 0 then (some ((-9223372036854775808 : Int64), σ3)) else (bnd1 (f_X12_within ((p3 : Int32).toInt64) (0 : Int64) (1 : Int64)) (fun r9 => if r9 = 0 then (some ((-9223372036854775808 : Int64), σ3)) else (bnd2 (f_X12_figuresOf σ3 p1) (fun r12 σ13 => f_X12_sums_b45 256 σ13 p1 p2 p3 r12 (0 : Int32))))))) else (some ((-9223372036854775808 : Int64), σ3)))
set_option maxHeartbeats 4000000 in
set_option maxRecDepth 100000 in
theorem w_X12_sums_b68 {p : Program} {l : Launch} {e : Env} {s : State} {m : MethodId} {args : Array Value} {below : List Frame} {meth : Method} {c : Code} {g : va_G} {ts : ClassId × ClassId × ClassId} {A : Nat → Prop} {Q : State → Prop} {a : Nat → Nat} {r : Int64} {σ' : St} {k45 : St → Int32 → Int32 → Int32 → Int32 → Int32 → Option (Int64 × St)} (C : FX p s m args meth c RX12 cX12_sums 9 g ts A) (hQ : RetL p l e (rk 101 2182) s m args below meth c cX12_sums g (WM ts a) A r σ' Q) (hk45 : ∀ (σ : St) (x1 : Int32) (x2 : Int32) (x3 : Int32) (x4 : Int32) (x5 : Int32) (H : Heap) (locs : List Loc) (ls : Array Slot), k45 σ x1 x2 x3 x4 x5 = some (r, σ') → va_P g classes (WM ts a σ) H → va_D A (WM ts a σ) → va_S A s.heap H locs → lv_has ls 9 [(0, .ref (a 0)), (1, .int x1), (2, .int x2), (3, .int x3), (4, .int x4), (5, .int x5)] → W p l e (rk 101 2182) s m args below meth c H locs 0 0 Q (F0 m 45 ls [])) : ∀ (σ : St) (x1 : Int32) (x2 : Int32) (x3 : Int32) (x4 : Int32) (x5 : Int32) (s0 : Int64) (s1 : Int32) (H : Heap) (locs : List Loc) (ls : Array Slot), f_X12_sums_b68 k45 σ x1 x2 x3 x4 x5 s0 s1 = some (r, σ') → va_P g classes (WM ts a σ) H → va_D A (WM ts a σ) → va_S A s.heap H locs → lv_has ls 9 [(0, .ref (a 0)), (1, .int x1), (2, .int x2), (3, .int x3), (4, .int x4), (5, .int x5)] → W p l e (rk 101 2182) s m args below meth c H locs 0 0 Q (F0 m 68 ls [.long s0, .int s1, .ref (a 12)]) := by
  have hx := C.1
  have hb := C.2.1
  have hown := C.2.2.2.1
  have hts := C.2.2.2.2.1
  intro σ x1 x2 x3 x4 x5 s0 s1 H locs ls hf hP hD hS hl
  rw [f_X12_sums_b68] at hf
  obtain ⟨h17, hf⟩ := chk_some hf
  refine AS_X12_sumWays C hP hD hS h17 dX12_sums_68 (fun H locs hP hD hS => ?_)
  refine nameS hP hD hf (fun σ18 hP hD hf => ?_)
  obtain ⟨v19, ev19⟩ : ∃ z : Int32, z = x5 + 1 := ⟨_, rfl⟩
  replace hf := bnd_at ev19 hf
  refine lv_iinc (v := v19) (lv' := [(5, .int v19), (0, .ref (a 0)), (1, .int x1), (2, .int x2), (3, .int x3), (4, .int x4)]) hx hb dX12_sums_69 hl (k := 5) rfl (by rw [ev19]; rfl) (by decide) rfl (fun ls hl => ?_)
  refine lv_goto (tgt := 45) hx hb dX12_sums_72 (by decide) ?_
  exact hk45 _ _ _ _ _ _ _ _ _ hf hP hD hS (lv_sub hl [1, 2, 3, 4, 5, 0] rfl)
set_option maxHeartbeats 4000000 in
set_option maxRecDepth 100000 in
theorem w_X12_sums_b141 {p : Program} {l : Launch} {e : Env} {s : State} {m : MethodId} {args : Array Value} {below : List Frame} {meth : Method} {c : Code} {g : va_G} {ts : ClassId × ClassId × ClassId} {A : Nat → Prop} {Q : State → Prop} {a : Nat → Nat} {r : Int64} {σ' : St} {k78 : St → Int32 → Int32 → Int32 → Int32 → Int32 → Option (Int64 × St)} {k115 : St → Int32 → Int32 → Int32 → Int32 → Int32 → Int32 → Option (Int64 × St)} (C : FX p s m args meth c RX12 cX12_sums 9 g ts A) (hQ : RetL p l e (rk 101 2182) s m args below meth c cX12_sums g (WM ts a) A r σ' Q) (hk78 : ∀ (σ : St) (x1 : Int32) (x2 : Int32) (x3 : Int32) (x4 : Int32) (x5 : Int32) (H : Heap) (locs : List Loc) (ls : Array Slot), k78 σ x1 x2 x3 x4 x5 = some (r, σ') → va_P g classes (WM ts a σ) H → va_D A (WM ts a σ) → va_S A s.heap H locs → lv_has ls 9 [(0, .ref (a 0)), (1, .int x1), (2, .int x2), (3, .int x3), (4, .int x4), (5, .int x5)] → W p l e (rk 101 2182) s m args below meth c H locs 0 0 Q (F0 m 78 ls [])) (hk115 : ∀ (σ : St) (x1 : Int32) (x2 : Int32) (x3 : Int32) (x4 : Int32) (x5 : Int32) (x6 : Int32) (H : Heap) (locs : List Loc) (ls : Array Slot), k115 σ x1 x2 x3 x4 x5 x6 = some (r, σ') → va_P g classes (WM ts a σ) H → va_D A (WM ts a σ) → va_S A s.heap H locs → lv_has ls 9 [(0, .ref (a 0)), (1, .int x1), (2, .int x2), (3, .int x3), (4, .int x4), (5, .int x5), (6, .int x6)] → W p l e (rk 101 2182) s m args below meth c H locs 0 0 Q (F0 m 115 ls [])) : ∀ (n : Nat) (σ : St) (x1 : Int32) (x2 : Int32) (x3 : Int32) (x4 : Int32) (x5 : Int32) (x6 : Int32) (x7 : Int32) (x8 : Int32) (H : Heap) (locs : List Loc) (ls : Array Slot), f_X12_sums_b141 k78 k115 n σ x1 x2 x3 x4 x5 x6 x7 x8 = some (r, σ') → va_P g classes (WM ts a σ) H → va_D A (WM ts a σ) → va_S A s.heap H locs → lv_has ls 9 [(0, .ref (a 0)), (1, .int x1), (2, .int x2), (3, .int x3), (4, .int x4), (5, .int x5), (6, .int x6), (7, .int x7), (8, .int x8)] → W p l e (rk 101 2182) s m args below meth c H locs 0 0 Q (F0 m 141 ls []) := by
  have hx := C.1
  have hb := C.2.1
  have hown := C.2.2.2.1
  have hts := C.2.2.2.2.1
  intro n
  induction n with
  | zero =>
    intro σ x1 x2 x3 x4 x5 x6 x7 x8 H locs ls hf
    cases hf
  | succ n ih =>
    intro σ x1 x2 x3 x4 x5 x6 x7 x8 H locs ls hf hP hD hS hl
    rw [f_X12_sums_b141] at hf
    refine lv_iload hx hb dX12_sums_141 (lv_at hl 8 rfl) ?_
    refine lv_iload hx hb dX12_sums_143 (lv_at hl 6 rfl) ?_
    refine lv_iadd hx hb dX12_sums_145 ?_
    refine lv_bipush (v := 60) hx hb dX12_sums_146 (by decide) ?_
    refine lv_icmp_ge (tgt := 184) hx hb dX12_sums_148 (by decide) (fun c45 => ?_) (fun c45 => ?_)
    · replace hf := ipos c45 hf
      obtain ⟨v46, ev46⟩ : ∃ z : Int32, z = x6 + 1 := ⟨_, rfl⟩
      replace hf := bnd_at ev46 hf
      refine lv_iinc (v := v46) (lv' := [(6, .int v46), (0, .ref (a 0)), (1, .int x1), (2, .int x2), (3, .int x3), (4, .int x4), (5, .int x5), (7, .int x7), (8, .int x8)]) hx hb dX12_sums_184 hl (k := 6) rfl (by rw [ev46]; rfl) (by decide) rfl (fun ls hl => ?_)
      refine lv_goto (tgt := 115) hx hb dX12_sums_187 (by decide) ?_
      exact hk115 _ _ _ _ _ _ _ _ _ _ hf hP hD hS (lv_sub hl [1, 2, 3, 4, 5, 6, 0] rfl)
    · replace hf := ineg c45 hf
      refine lv_aload_n hx hb dX12_sums_151 rfl (lv_at hl 0 rfl) ?_
      refine G_X12_sumWays C hP q_1093 dX12_sums_152 ?_
      refine lv_bipush (v := 60) hx hb dX12_sums_155 (by decide) ?_
      refine lv_iload hx hb dX12_sums_157 (lv_at hl 8 rfl) ?_
      refine lv_iadd hx hb dX12_sums_159 ?_
      refine lv_iload hx hb dX12_sums_160 (lv_at hl 6 rfl) ?_
      refine lv_iadd hx hb dX12_sums_162 ?_
      refine lv_dup2_11 hx hb dX12_sums_163 rfl rfl ?_
      obtain ⟨h47, hf⟩ := chk_some hf
      refine AL_X12_sumWays C hP h47 dX12_sums_164 ?_
      refine lv_aload_n hx hb dX12_sums_165 rfl (lv_at hl 0 rfl) ?_
      refine G_X12_sumWays C hP q_1093 dX12_sums_166 ?_
      refine lv_iload hx hb dX12_sums_169 (lv_at hl 8 rfl) ?_
      obtain ⟨h48, hf⟩ := chk_some hf
      refine AL_X12_sumWays C hP h48 dX12_sums_171 ?_
      refine lv_iload hx hb dX12_sums_172 (lv_at hl 7 rfl) ?_
      refine lv_i2l (v := (x7 : Int32).toInt64) hx hb dX12_sums_174 rfl ?_
      refine lv_lmul hx hb dX12_sums_175 ?_
      refine lv_ladd hx hb dX12_sums_176 ?_
      obtain ⟨h49, hf⟩ := chk_some hf
      refine AS_X12_sumWays C hP hD hS h49 dX12_sums_177 (fun H locs hP hD hS => ?_)
      refine nameS hP hD hf (fun σ50 hP hD hf => ?_)
      obtain ⟨v51, ev51⟩ : ∃ z : Int32, z = x8 + 1 := ⟨_, rfl⟩
      replace hf := bnd_at ev51 hf
      refine lv_iinc (v := v51) (lv' := [(8, .int v51), (0, .ref (a 0)), (1, .int x1), (2, .int x2), (3, .int x3), (4, .int x4), (5, .int x5), (6, .int x6), (7, .int x7)]) hx hb dX12_sums_178 hl (k := 8) rfl (by rw [ev51]; rfl) (by decide) rfl (fun ls hl => ?_)
      refine lv_goto (tgt := 141) hx hb dX12_sums_181 (by decide) ?_
      exact ih _ _ _ _ _ _ _ _ _ _ _ _ hf hP hD hS (lv_sub hl [1, 2, 3, 4, 5, 6, 7, 8, 0] rfl)
set_option maxHeartbeats 4000000 in
set_option maxRecDepth 100000 in
theorem w_X12_sums_b193 {p : Program} {l : Launch} {e : Env} {s : State} {m : MethodId} {args : Array Value} {below : List Frame} {meth : Method} {c : Code} {g : va_G} {ts : ClassId × ClassId × ClassId} {A : Nat → Prop} {Q : State → Prop} {a : Nat → Nat} {r : Int64} {σ' : St} {k78 : St → Int32 → Int32 → Int32 → Int32 → Int32 → Option (Int64 × St)} (C : FX p s m args meth c RX12 cX12_sums 9 g ts A) (hQ : RetL p l e (rk 101 2182) s m args below meth c cX12_sums g (WM ts a) A r σ' Q) (hk78 : ∀ (σ : St) (x1 : Int32) (x2 : Int32) (x3 : Int32) (x4 : Int32) (x5 : Int32) (H : Heap) (locs : List Loc) (ls : Array Slot), k78 σ x1 x2 x3 x4 x5 = some (r, σ') → va_P g classes (WM ts a σ) H → va_D A (WM ts a σ) → va_S A s.heap H locs → lv_has ls 9 [(0, .ref (a 0)), (1, .int x1), (2, .int x2), (3, .int x3), (4, .int x4), (5, .int x5)] → W p l e (rk 101 2182) s m args below meth c H locs 0 0 Q (F0 m 78 ls [])) : ∀ (n : Nat) (σ : St) (x1 : Int32) (x2 : Int32) (x3 : Int32) (x4 : Int32) (x5 : Int32) (x6 : Int32) (H : Heap) (locs : List Loc) (ls : Array Slot), f_X12_sums_b193 k78 n σ x1 x2 x3 x4 x5 x6 = some (r, σ') → va_P g classes (WM ts a σ) H → va_D A (WM ts a σ) → va_S A s.heap H locs → lv_has ls 9 [(0, .ref (a 0)), (1, .int x1), (2, .int x2), (3, .int x3), (4, .int x4), (5, .int x5), (6, .int x6)] → W p l e (rk 101 2182) s m args below meth c H locs 0 0 Q (F0 m 193 ls []) := by
  have hx := C.1
  have hb := C.2.1
  have hown := C.2.2.2.1
  have hts := C.2.2.2.2.1
  intro n
  induction n with
  | zero =>
    intro σ x1 x2 x3 x4 x5 x6 H locs ls hf
    cases hf
  | succ n ih =>
    intro σ x1 x2 x3 x4 x5 x6 H locs ls hf hP hD hS hl
    rw [f_X12_sums_b193] at hf
    refine lv_iload hx hb dX12_sums_193 (lv_at hl 6 rfl) ?_
    refine lv_bipush (v := 60) hx hb dX12_sums_195 (by decide) ?_
    refine lv_icmp_ge (tgt := 223) hx hb dX12_sums_197 (by decide) (fun c39 => ?_) (fun c39 => ?_)
    · replace hf := ipos c39 hf
      obtain ⟨v40, ev40⟩ : ∃ z : Int32, z = x5 + 1 := ⟨_, rfl⟩
      replace hf := bnd_at ev40 hf
      refine lv_iinc (v := v40) (lv' := [(5, .int v40), (0, .ref (a 0)), (1, .int x1), (2, .int x2), (3, .int x3), (4, .int x4), (6, .int x6)]) hx hb dX12_sums_223 hl (k := 5) rfl (by rw [ev40]; rfl) (by decide) rfl (fun ls hl => ?_)
      refine lv_goto (tgt := 78) hx hb dX12_sums_226 (by decide) ?_
      exact hk78 _ _ _ _ _ _ _ _ _ hf hP hD hS (lv_sub hl [1, 2, 3, 4, 5, 0] rfl)
    · replace hf := ineg c39 hf
      refine lv_aload_n hx hb dX12_sums_200 rfl (lv_at hl 0 rfl) ?_
      refine G_X12_sumWays C hP q_1093 dX12_sums_201 ?_
      refine lv_iload hx hb dX12_sums_204 (lv_at hl 6 rfl) ?_
      refine lv_aload_n hx hb dX12_sums_206 rfl (lv_at hl 0 rfl) ?_
      refine G_X12_sumWays C hP q_1093 dX12_sums_207 ?_
      refine lv_bipush (v := 60) hx hb dX12_sums_210 (by decide) ?_
      refine lv_iload hx hb dX12_sums_212 (lv_at hl 6 rfl) ?_
      refine lv_iadd hx hb dX12_sums_214 ?_
      obtain ⟨h41, hf⟩ := chk_some hf
      refine AL_X12_sumWays C hP h41 dX12_sums_215 ?_
      obtain ⟨h42, hf⟩ := chk_some hf
      refine AS_X12_sumWays C hP hD hS h42 dX12_sums_216 (fun H locs hP hD hS => ?_)
      refine nameS hP hD hf (fun σ43 hP hD hf => ?_)
      obtain ⟨v44, ev44⟩ : ∃ z : Int32, z = x6 + 1 := ⟨_, rfl⟩
      replace hf := bnd_at ev44 hf
      refine lv_iinc (v := v44) (lv' := [(6, .int v44), (0, .ref (a 0)), (1, .int x1), (2, .int x2), (3, .int x3), (4, .int x4), (5, .int x5)]) hx hb dX12_sums_217 hl (k := 6) rfl (by rw [ev44]; rfl) (by decide) rfl (fun ls hl => ?_)
      refine lv_goto (tgt := 193) hx hb dX12_sums_220 (by decide) ?_
      exact ih _ _ _ _ _ _ _ _ _ _ hf hP hD hS (lv_sub hl [1, 2, 3, 4, 5, 6, 0] rfl)
set_option maxHeartbeats 4000000 in
set_option maxRecDepth 100000 in
theorem w_X12_sums_b115 {p : Program} {l : Launch} {e : Env} {s : State} {m : MethodId} {args : Array Value} {below : List Frame} {meth : Method} {c : Code} {g : va_G} {ts : ClassId × ClassId × ClassId} {A : Nat → Prop} {Q : State → Prop} {a : Nat → Nat} {r : Int64} {σ' : St} {k78 : St → Int32 → Int32 → Int32 → Int32 → Int32 → Option (Int64 × St)} (C : FX p s m args meth c RX12 cX12_sums 9 g ts A) (hQ : RetL p l e (rk 101 2182) s m args below meth c cX12_sums g (WM ts a) A r σ' Q) (hk78 : ∀ (σ : St) (x1 : Int32) (x2 : Int32) (x3 : Int32) (x4 : Int32) (x5 : Int32) (H : Heap) (locs : List Loc) (ls : Array Slot), k78 σ x1 x2 x3 x4 x5 = some (r, σ') → va_P g classes (WM ts a σ) H → va_D A (WM ts a σ) → va_S A s.heap H locs → lv_has ls 9 [(0, .ref (a 0)), (1, .int x1), (2, .int x2), (3, .int x3), (4, .int x4), (5, .int x5)] → W p l e (rk 101 2182) s m args below meth c H locs 0 0 Q (F0 m 78 ls [])) : ∀ (n : Nat) (σ : St) (x1 : Int32) (x2 : Int32) (x3 : Int32) (x4 : Int32) (x5 : Int32) (x6 : Int32) (H : Heap) (locs : List Loc) (ls : Array Slot), f_X12_sums_b115 k78 n σ x1 x2 x3 x4 x5 x6 = some (r, σ') → va_P g classes (WM ts a σ) H → va_D A (WM ts a σ) → va_S A s.heap H locs → lv_has ls 9 [(0, .ref (a 0)), (1, .int x1), (2, .int x2), (3, .int x3), (4, .int x4), (5, .int x5), (6, .int x6)] → W p l e (rk 101 2182) s m args below meth c H locs 0 0 Q (F0 m 115 ls []) := by
  have hx := C.1
  have hb := C.2.1
  have hown := C.2.2.2.1
  have hts := C.2.2.2.2.1
  intro n
  induction n with
  | zero =>
    intro σ x1 x2 x3 x4 x5 x6 H locs ls hf
    cases hf
  | succ n ih =>
    intro σ x1 x2 x3 x4 x5 x6 H locs ls hf hP hD hS hl
    rw [f_X12_sums_b115] at hf
    refine lv_iload hx hb dX12_sums_115 (lv_at hl 6 rfl) ?_
    refine lv_bipush (v := 12) hx hb dX12_sums_117 (by decide) ?_
    refine lv_icmp_ge (tgt := 190) hx hb dX12_sums_119 (by decide) (fun c32 => ?_) (fun c32 => ?_)
    · replace hf := ipos c32 hf
      refine lv_iconst (v := 0) hx hb dX12_sums_190 (by decide) ?_
      refine lv_istore (lv' := [(6, .int (0 : Int32)), (0, .ref (a 0)), (1, .int x1), (2, .int x2), (3, .int x3), (4, .int x4), (5, .int x5)]) hx hb dX12_sums_191 hl (by decide) rfl (fun ls hl => ?_)
      exact w_X12_sums_b193 C hQ hk78 256 _ _ _ _ _ _ _ _ _ _ hf hP hD hS (lv_sub hl [1, 2, 3, 4, 5, 6, 0] rfl)
    · replace hf := ineg c32 hf
      refine lv_aload_n hx hb dX12_sums_122 rfl (lv_at hl 0 rfl) ?_
      refine lv_iload hx hb dX12_sums_123 (lv_at hl 6 rfl) ?_
      refine lv_aload_n hx hb dX12_sums_125 rfl (lv_at hl 0 rfl) ?_
      refine lv_iload_n hx hb dX12_sums_126 rfl (lv_at hl 1 rfl) ?_
      refine lv_iload hx hb dX12_sums_127 (lv_at hl 5 rfl) ?_
      obtain ⟨r34, σ35, h33, hf⟩ := bnd2_some hf
      refine vL [.int x6, .ref (a 0)] C hP hD hS (c_X12_itemAt h33) mv_X12_itemAt q_1226 rv_X12 dX12_sums_129 ⟨Nat.le_of_ble_eq_true rfl, Nat.le_of_ble_eq_true rfl⟩ ⟨Nat.zero_le _, Nat.zero_le _⟩ rfl rfl (Nat.le_of_ble_eq_true rfl) hl.1 (fun H locs hP hD hS => ?_)
      refine lv_iconst (v := 0) hx hb dX12_sums_132 (by decide) ?_
      obtain ⟨r37, σ38, h36, hf⟩ := bnd2_some hf
      refine vI [] C hP hD hS (c_X12_partOfHeard h36) mv_X12_partOfHeard q_1349 rv_X12 dX12_sums_133 ⟨Nat.le_of_ble_eq_true rfl, Nat.le_of_ble_eq_true rfl⟩ ⟨Nat.zero_le _, Nat.zero_le _⟩ rfl rfl (Nat.le_of_ble_eq_true rfl) hl.1 (fun H locs hP hD hS => ?_)
      refine lv_istore (lv' := [(7, .int r37), (0, .ref (a 0)), (1, .int x1), (2, .int x2), (3, .int x3), (4, .int x4), (5, .int x5), (6, .int x6)]) hx hb dX12_sums_136 hl (by decide) rfl (fun ls hl => ?_)
      refine lv_iconst (v := 0) hx hb dX12_sums_138 (by decide) ?_
      refine lv_istore (lv' := [(8, .int (0 : Int32)), (7, .int r37), (0, .ref (a 0)), (1, .int x1), (2, .int x2), (3, .int x3), (4, .int x4), (5, .int x5), (6, .int x6)]) hx hb dX12_sums_139 hl (by decide) rfl (fun ls hl => ?_)
      exact w_X12_sums_b141 C hQ hk78 ih 256 _ _ _ _ _ _ _ _ _ _ _ _ hf hP hD hS (lv_sub hl [2, 3, 4, 5, 6, 7, 8, 1, 0] rfl)
set_option maxHeartbeats 4000000 in
set_option maxRecDepth 100000 in
theorem w_X12_sums_b88 {p : Program} {l : Launch} {e : Env} {s : State} {m : MethodId} {args : Array Value} {below : List Frame} {meth : Method} {c : Code} {g : va_G} {ts : ClassId × ClassId × ClassId} {A : Nat → Prop} {Q : State → Prop} {a : Nat → Nat} {r : Int64} {σ' : St} {k78 : St → Int32 → Int32 → Int32 → Int32 → Int32 → Option (Int64 × St)} (C : FX p s m args meth c RX12 cX12_sums 9 g ts A) (hQ : RetL p l e (rk 101 2182) s m args below meth c cX12_sums g (WM ts a) A r σ' Q) (hk78 : ∀ (σ : St) (x1 : Int32) (x2 : Int32) (x3 : Int32) (x4 : Int32) (x5 : Int32) (H : Heap) (locs : List Loc) (ls : Array Slot), k78 σ x1 x2 x3 x4 x5 = some (r, σ') → va_P g classes (WM ts a σ) H → va_D A (WM ts a σ) → va_S A s.heap H locs → lv_has ls 9 [(0, .ref (a 0)), (1, .int x1), (2, .int x2), (3, .int x3), (4, .int x4), (5, .int x5)] → W p l e (rk 101 2182) s m args below meth c H locs 0 0 Q (F0 m 78 ls [])) : ∀ (n : Nat) (σ : St) (x1 : Int32) (x2 : Int32) (x3 : Int32) (x4 : Int32) (x5 : Int32) (x6 : Int32) (H : Heap) (locs : List Loc) (ls : Array Slot), f_X12_sums_b88 k78 n σ x1 x2 x3 x4 x5 x6 = some (r, σ') → va_P g classes (WM ts a σ) H → va_D A (WM ts a σ) → va_S A s.heap H locs → lv_has ls 9 [(0, .ref (a 0)), (1, .int x1), (2, .int x2), (3, .int x3), (4, .int x4), (5, .int x5), (6, .int x6)] → W p l e (rk 101 2182) s m args below meth c H locs 0 0 Q (F0 m 88 ls []) := by
  have hx := C.1
  have hb := C.2.1
  have hown := C.2.2.2.1
  have hts := C.2.2.2.2.1
  intro n
  induction n with
  | zero =>
    intro σ x1 x2 x3 x4 x5 x6 H locs ls hf
    cases hf
  | succ n ih =>
    intro σ x1 x2 x3 x4 x5 x6 H locs ls hf hP hD hS hl
    rw [f_X12_sums_b88] at hf
    refine lv_iload hx hb dX12_sums_88 (lv_at hl 6 rfl) ?_
    refine lv_bipush (v := 60) hx hb dX12_sums_90 (by decide) ?_
    refine lv_icmp_ge (tgt := 112) hx hb dX12_sums_92 (by decide) (fun c28 => ?_) (fun c28 => ?_)
    · replace hf := ipos c28 hf
      refine lv_iconst (v := 0) hx hb dX12_sums_112 (by decide) ?_
      refine lv_istore (lv' := [(6, .int (0 : Int32)), (0, .ref (a 0)), (1, .int x1), (2, .int x2), (3, .int x3), (4, .int x4), (5, .int x5)]) hx hb dX12_sums_113 hl (by decide) rfl (fun ls hl => ?_)
      exact w_X12_sums_b115 C hQ hk78 256 _ _ _ _ _ _ _ _ _ _ hf hP hD hS (lv_sub hl [1, 2, 3, 4, 5, 6, 0] rfl)
    · replace hf := ineg c28 hf
      refine lv_aload_n hx hb dX12_sums_95 rfl (lv_at hl 0 rfl) ?_
      refine G_X12_sumWays C hP q_1093 dX12_sums_96 ?_
      refine lv_bipush (v := 60) hx hb dX12_sums_99 (by decide) ?_
      refine lv_iload hx hb dX12_sums_101 (lv_at hl 6 rfl) ?_
      refine lv_iadd hx hb dX12_sums_103 ?_
      refine lv_lconst (v := 0) hx hb dX12_sums_104 (by decide) ?_
      obtain ⟨h29, hf⟩ := chk_some hf
      refine AS_X12_sumWays C hP hD hS h29 dX12_sums_105 (fun H locs hP hD hS => ?_)
      refine nameS hP hD hf (fun σ30 hP hD hf => ?_)
      obtain ⟨v31, ev31⟩ : ∃ z : Int32, z = x6 + 1 := ⟨_, rfl⟩
      replace hf := bnd_at ev31 hf
      refine lv_iinc (v := v31) (lv' := [(6, .int v31), (0, .ref (a 0)), (1, .int x1), (2, .int x2), (3, .int x3), (4, .int x4), (5, .int x5)]) hx hb dX12_sums_106 hl (k := 6) rfl (by rw [ev31]; rfl) (by decide) rfl (fun ls hl => ?_)
      refine lv_goto (tgt := 88) hx hb dX12_sums_109 (by decide) ?_
      exact ih _ _ _ _ _ _ _ _ _ _ hf hP hD hS (lv_sub hl [1, 2, 3, 4, 5, 6, 0] rfl)
set_option maxHeartbeats 4000000 in
set_option maxRecDepth 100000 in
theorem w_X12_sums_b235 {p : Program} {l : Launch} {e : Env} {s : State} {m : MethodId} {args : Array Value} {below : List Frame} {meth : Method} {c : Code} {g : va_G} {ts : ClassId × ClassId × ClassId} {A : Nat → Prop} {Q : State → Prop} {a : Nat → Nat} {r : Int64} {σ' : St} (C : FX p s m args meth c RX12 cX12_sums 9 g ts A) (hQ : RetL p l e (rk 101 2182) s m args below meth c cX12_sums g (WM ts a) A r σ' Q) : ∀ (n : Nat) (σ : St) (x2 : Int32) (x3 : Int32) (x5 : Int64) (x7 : Int32) (H : Heap) (locs : List Loc) (ls : Array Slot), f_X12_sums_b235 n σ x2 x3 x5 x7 = some (r, σ') → va_P g classes (WM ts a σ) H → va_D A (WM ts a σ) → va_S A s.heap H locs → lv_has ls 9 [(0, .ref (a 0)), (2, .int x2), (3, .int x3), (5, .long x5), (7, .int x7)] → W p l e (rk 101 2182) s m args below meth c H locs 0 0 Q (F0 m 235 ls []) := by
  have hx := C.1
  have hb := C.2.1
  have hown := C.2.2.2.1
  have hts := C.2.2.2.2.1
  intro n
  induction n with
  | zero =>
    intro σ x2 x3 x5 x7 H locs ls hf
    cases hf
  | succ n ih =>
    intro σ x2 x3 x5 x7 H locs ls hf hP hD hS hl
    rw [f_X12_sums_b235] at hf
    refine lv_iload hx hb dX12_sums_235 (lv_at hl 4 rfl) ?_
    refine lv_bipush (v := 60) hx hb dX12_sums_237 (by decide) ?_
    refine lv_icmp_ge (tgt := 260) hx hb dX12_sums_239 (by decide) (fun c20 => ?_) (fun c20 => ?_)
    · replace hf := ipos c20 hf
      refine lv_lload hx hb dX12_sums_260 (lv_at hl 3 rfl) ?_
      refine lv_lconst (v := 0) hx hb dX12_sums_262 (by decide) ?_
      refine lb_ne (tgt := 273) hx hb dX12_sums_263 dX12_sums_264 (by decide) (fun c21 => ?_) (fun c21 => ?_)
      · replace hf := ineg c21 hf
        refine lv_aload_n hx hb dX12_sums_273 rfl (lv_at hl 0 rfl) ?_
        refine G_X12_sumWays C hP q_1093 dX12_sums_274 ?_
        refine lv_iload_n hx hb dX12_sums_277 rfl (lv_at hl 1 rfl) ?_
        obtain ⟨h22, hf⟩ := chk_some hf
        refine AL_X12_sumWays C hP h22 dX12_sums_278 ?_
        refine lv_lload hx hb dX12_sums_279 (lv_at hl 3 rfl) ?_
        refine lv_iload_n hx hb dX12_sums_281 rfl (lv_at hl 2 rfl) ?_
        obtain ⟨r24, h23, hf⟩ := bnd1_some hf
        refine tL [] C hP hD hS (c_X12_partOf h23) ms_X12_partOf q_1331 dX12_sums_282 ⟨Nat.le_of_ble_eq_true rfl, Nat.le_of_ble_eq_true rfl⟩ ⟨Nat.zero_le _, Nat.zero_le _⟩ rfl rfl (Nat.le_of_ble_eq_true rfl) hl.1 (fun H locs hP hD hS => ?_)
        exact retL hQ hf dX12_sums_285 hP hD hS
      · replace hf := ipos c21 hf
        refine lv_ldc2 hx hb hown (hts _ q_1353) dX12_sums_267 ?_
        refine lv_goto (tgt := 285) hx hb dX12_sums_270 (by decide) ?_
        exact retL hQ hf dX12_sums_285 hP hD hS
    · replace hf := ineg c20 hf
      refine lv_lload hx hb dX12_sums_242 (lv_at hl 3 rfl) ?_
      refine lv_aload_n hx hb dX12_sums_244 rfl (lv_at hl 0 rfl) ?_
      refine G_X12_sumWays C hP q_1093 dX12_sums_245 ?_
      refine lv_iload hx hb dX12_sums_248 (lv_at hl 4 rfl) ?_
      obtain ⟨h25, hf⟩ := chk_some hf
      refine AL_X12_sumWays C hP h25 dX12_sums_250 ?_
      refine lv_ladd hx hb dX12_sums_251 ?_
      refine lv_topl (fun v26 ev26 => ?_)
      replace hf := bnd_at ev26 hf
      refine lv_lstore (lv' := [(5, .long v26), (0, .ref (a 0)), (2, .int x2), (3, .int x3), (7, .int x7)]) hx hb dX12_sums_252 hl (by decide) rfl (fun ls hl => ?_)
      obtain ⟨v27, ev27⟩ : ∃ z : Int32, z = x7 + 1 := ⟨_, rfl⟩
      replace hf := bnd_at ev27 hf
      refine lv_iinc (v := v27) (lv' := [(7, .int v27), (5, .long v26), (0, .ref (a 0)), (2, .int x2), (3, .int x3)]) hx hb dX12_sums_254 hl (k := 4) rfl (by rw [ev27]; rfl) (by decide) rfl (fun ls hl => ?_)
      refine lv_goto (tgt := 235) hx hb dX12_sums_257 (by decide) ?_
      exact ih _ _ _ _ _ _ _ _ hf hP hD hS (lv_sub hl [2, 3, 4, 1, 0] rfl)
set_option maxHeartbeats 4000000 in
set_option maxRecDepth 100000 in
theorem w_X12_sums_b78 {p : Program} {l : Launch} {e : Env} {s : State} {m : MethodId} {args : Array Value} {below : List Frame} {meth : Method} {c : Code} {g : va_G} {ts : ClassId × ClassId × ClassId} {A : Nat → Prop} {Q : State → Prop} {a : Nat → Nat} {r : Int64} {σ' : St} (C : FX p s m args meth c RX12 cX12_sums 9 g ts A) (hQ : RetL p l e (rk 101 2182) s m args below meth c cX12_sums g (WM ts a) A r σ' Q) : ∀ (n : Nat) (σ : St) (x1 : Int32) (x2 : Int32) (x3 : Int32) (x4 : Int32) (x5 : Int32) (H : Heap) (locs : List Loc) (ls : Array Slot), f_X12_sums_b78 n σ x1 x2 x3 x4 x5 = some (r, σ') → va_P g classes (WM ts a σ) H → va_D A (WM ts a σ) → va_S A s.heap H locs → lv_has ls 9 [(0, .ref (a 0)), (1, .int x1), (2, .int x2), (3, .int x3), (4, .int x4), (5, .int x5)] → W p l e (rk 101 2182) s m args below meth c H locs 0 0 Q (F0 m 78 ls []) := by
  have hx := C.1
  have hb := C.2.1
  have hown := C.2.2.2.1
  have hts := C.2.2.2.2.1
  intro n
  induction n with
  | zero =>
    intro σ x1 x2 x3 x4 x5 H locs ls hf
    cases hf
  | succ n ih =>
    intro σ x1 x2 x3 x4 x5 H locs ls hf hP hD hS hl
    rw [f_X12_sums_b78] at hf
    refine lv_iload hx hb dX12_sums_78 (lv_at hl 5 rfl) ?_
    refine lv_iload hx hb dX12_sums_80 (lv_at hl 4 rfl) ?_
    refine lv_icmp_ge (tgt := 229) hx hb dX12_sums_82 (by decide) (fun c16 => ?_) (fun c16 => ?_)
    · replace hf := ipos c16 hf
      refine lv_lconst (v := 0) hx hb dX12_sums_229 (by decide) ?_
      refine lv_lstore (lv' := [(5, .long (0 : Int64)), (0, .ref (a 0)), (1, .int x1), (2, .int x2), (3, .int x3), (4, .int x4)]) hx hb dX12_sums_230 hl (by decide) rfl (fun ls hl => ?_)
      refine lv_iconst (v := 0) hx hb dX12_sums_232 (by decide) ?_
      refine lv_istore (lv' := [(7, .int (0 : Int32)), (5, .long (0 : Int64)), (0, .ref (a 0)), (1, .int x1), (2, .int x2), (3, .int x3), (4, .int x4)]) hx hb dX12_sums_233 hl (by decide) rfl (fun ls hl => ?_)
      exact w_X12_sums_b235 C hQ 256 _ _ _ _ _ _ _ _ hf hP hD hS (lv_sub hl [2, 4, 5, 1, 0] rfl)
    · replace hf := ineg c16 hf
      refine lv_iconst (v := 0) hx hb dX12_sums_85 (by decide) ?_
      refine lv_istore (lv' := [(6, .int (0 : Int32)), (0, .ref (a 0)), (1, .int x1), (2, .int x2), (3, .int x3), (4, .int x4), (5, .int x5)]) hx hb dX12_sums_86 hl (by decide) rfl (fun ls hl => ?_)
      exact w_X12_sums_b88 C hQ ih 256 _ _ _ _ _ _ _ _ _ _ hf hP hD hS (lv_sub hl [1, 2, 3, 4, 5, 6, 0] rfl)
set_option maxHeartbeats 4000000 in
set_option maxRecDepth 100000 in
theorem w_X12_sums_b45 {p : Program} {l : Launch} {e : Env} {s : State} {m : MethodId} {args : Array Value} {below : List Frame} {meth : Method} {c : Code} {g : va_G} {ts : ClassId × ClassId × ClassId} {A : Nat → Prop} {Q : State → Prop} {a : Nat → Nat} {r : Int64} {σ' : St} (C : FX p s m args meth c RX12 cX12_sums 9 g ts A) (hQ : RetL p l e (rk 101 2182) s m args below meth c cX12_sums g (WM ts a) A r σ' Q) : ∀ (n : Nat) (σ : St) (x1 : Int32) (x2 : Int32) (x3 : Int32) (x4 : Int32) (x5 : Int32) (H : Heap) (locs : List Loc) (ls : Array Slot), f_X12_sums_b45 n σ x1 x2 x3 x4 x5 = some (r, σ') → va_P g classes (WM ts a σ) H → va_D A (WM ts a σ) → va_S A s.heap H locs → lv_has ls 9 [(0, .ref (a 0)), (1, .int x1), (2, .int x2), (3, .int x3), (4, .int x4), (5, .int x5)] → W p l e (rk 101 2182) s m args below meth c H locs 0 0 Q (F0 m 45 ls []) := by
  have hx := C.1
  have hb := C.2.1
  have hown := C.2.2.2.1
  have hts := C.2.2.2.2.1
  intro n
  induction n with
  | zero =>
    intro σ x1 x2 x3 x4 x5 H locs ls hf
    cases hf
  | succ n ih =>
    intro σ x1 x2 x3 x4 x5 H locs ls hf hP hD hS hl
    rw [f_X12_sums_b45] at hf
    refine lv_iload hx hb dX12_sums_45 (lv_at hl 5 rfl) ?_
    refine lv_bipush (v := 120) hx hb dX12_sums_47 (by decide) ?_
    refine lv_icmp_ge (tgt := 75) hx hb dX12_sums_49 (by decide) (fun c14 => ?_) (fun c14 => ?_)
    · replace hf := ipos c14 hf
      refine lv_iconst (v := 0) hx hb dX12_sums_75 (by decide) ?_
      refine lv_istore (lv' := [(5, .int (0 : Int32)), (0, .ref (a 0)), (1, .int x1), (2, .int x2), (3, .int x3), (4, .int x4)]) hx hb dX12_sums_76 hl (by decide) rfl (fun ls hl => ?_)
      exact w_X12_sums_b78 C hQ 256 _ _ _ _ _ _ _ _ _ hf hP hD hS (lv_sub hl [1, 2, 3, 4, 5, 0] rfl)
    · replace hf := ineg c14 hf
      refine lv_aload_n hx hb dX12_sums_52 rfl (lv_at hl 0 rfl) ?_
      refine G_X12_sumWays C hP q_1093 dX12_sums_53 ?_
      refine lv_iload hx hb dX12_sums_56 (lv_at hl 5 rfl) ?_
      refine lv_iload hx hb dX12_sums_58 (lv_at hl 5 rfl) ?_
      refine lv_if_ne (tgt := 67) hx hb dX12_sums_60 (by decide) (fun c15 => ?_) (fun c15 => ?_)
      · replace hf := ineg c15 hf
        refine lv_lconst (v := 0) hx hb dX12_sums_67 (by decide) ?_
        exact w_X12_sums_b68 C hQ ih _ _ _ _ _ _ _ _ _ _ _ hf hP hD hS (lv_sub hl [0, 1, 2, 3, 4, 5] rfl)
      · replace hf := ipos c15 hf
        refine lv_lconst (v := 1) hx hb dX12_sums_63 (by decide) ?_
        refine lv_goto (tgt := 68) hx hb dX12_sums_64 (by decide) ?_
        exact w_X12_sums_b68 C hQ ih _ _ _ _ _ _ _ _ _ _ _ hf hP hD hS (lv_sub hl [0, 1, 2, 3, 4, 5] rfl)
set_option maxHeartbeats 4000000 in
set_option maxRecDepth 100000 in
theorem c_X12_sums {l : Launch} {g : va_G} {ts : ClassId × ClassId × ClassId} {a : Nat → Nat} {σ : St} {p1 : Int32} {p2 : Int32} {p3 : Int32} {r : Int64} {σ' : St} (hf : f_X12_sums σ p1 p2 p3 = some (r, σ')) : ConL l g ts (WM ts a) yX12_sums cX12_sums 9 (some .long) (rk 101 2182) σ [.ref (a 0), .int p1, .int p2, .int p3] r σ' := by
  refine ConL_mk rfl rfl (by decide) (Nat.le_of_ble_eq_true rfl) ?_
  intro p e s m below meth c A Q ls C hQ hP hD hS hl
  have C : FX p s m _ meth c RX12 cX12_sums 9 g ts A := C
  have hx := C.1
  have hb := C.2.1
  have hown := C.2.2.2.1
  have hts := C.2.2.2.2.1
  have hl : lv_has ls 9 [(0, .ref (a 0)), (1, .int p1), (2, .int p2), (3, .int p3)] := hl
  rw [f_X12_sums] at hf
  refine lv_aload_n hx hb dX12_sums_0 rfl (lv_at hl 0 rfl) ?_
  refine lv_iload_n hx hb dX12_sums_1 rfl (lv_at hl 1 rfl) ?_
  obtain ⟨r2, σ3, h1, hf⟩ := bnd2_some hf
  refine vI [] C hP hD hS (c_X12_bytesIs h1) mv_X12_bytesIs q_1222 rv_X12 dX12_sums_2 ⟨Nat.le_of_ble_eq_true rfl, Nat.le_of_ble_eq_true rfl⟩ ⟨Nat.zero_le _, Nat.zero_le _⟩ rfl rfl (Nat.le_of_ble_eq_true rfl) hl.1 (fun H locs hP hD hS => ?_)
  refine lv_iconst (v := 1) hx hb dX12_sums_5 (by decide) ?_
  refine lv_icmp_ne (tgt := 31) hx hb dX12_sums_6 (by decide) (fun c4 => ?_) (fun c4 => ?_)
  · replace hf := ineg c4 hf
    refine lv_ldc2 hx hb hown (hts _ q_1326) dX12_sums_31 ?_
    exact retL hQ hf dX12_sums_34 hP hD hS
  · replace hf := ipos c4 hf
    refine lv_iload_n hx hb dX12_sums_9 rfl (lv_at hl 2 rfl) ?_
    refine lv_i2l (v := (p2 : Int32).toInt64) hx hb dX12_sums_10 rfl ?_
    refine lv_lconst (v := 0) hx hb dX12_sums_11 (by decide) ?_
    refine lv_ldc2 hx hb hown (hts _ q_1443) dX12_sums_12 ?_
    obtain ⟨r6, h5, hf⟩ := bnd1_some hf
    refine tI [] C hP hD hS (c_X12_within h5) ms_X12_within q_1218 dX12_sums_15 ⟨Nat.le_of_ble_eq_true rfl, Nat.le_of_ble_eq_true rfl⟩ ⟨Nat.zero_le _, Nat.zero_le _⟩ rfl rfl (Nat.le_of_ble_eq_true rfl) hl.1 (fun H locs hP hD hS => ?_)
    refine lv_if_eq (tgt := 31) hx hb dX12_sums_18 (by decide) (fun c7 => ?_) (fun c7 => ?_)
    · replace hf := ipos c7 hf
      refine lv_ldc2 hx hb hown (hts _ q_1326) dX12_sums_31 ?_
      exact retL hQ hf dX12_sums_34 hP hD hS
    · replace hf := ineg c7 hf
      refine lv_iload_n hx hb dX12_sums_21 rfl (lv_at hl 3 rfl) ?_
      refine lv_i2l (v := (p3 : Int32).toInt64) hx hb dX12_sums_22 rfl ?_
      refine lv_lconst (v := 0) hx hb dX12_sums_23 (by decide) ?_
      refine lv_lconst (v := 1) hx hb dX12_sums_24 (by decide) ?_
      obtain ⟨r9, h8, hf⟩ := bnd1_some hf
      refine tI [] C hP hD hS (c_X12_within h8) ms_X12_within q_1218 dX12_sums_25 ⟨Nat.le_of_ble_eq_true rfl, Nat.le_of_ble_eq_true rfl⟩ ⟨Nat.zero_le _, Nat.zero_le _⟩ rfl rfl (Nat.le_of_ble_eq_true rfl) hl.1 (fun H locs hP hD hS => ?_)
      refine lv_if_ne (tgt := 35) hx hb dX12_sums_28 (by decide) (fun c10 => ?_) (fun c10 => ?_)
      · replace hf := ineg c10 hf
        refine lv_aload_n hx hb dX12_sums_35 rfl (lv_at hl 0 rfl) ?_
        refine lv_iload_n hx hb dX12_sums_36 rfl (lv_at hl 1 rfl) ?_
        obtain ⟨r12, σ13, h11, hf⟩ := bnd2_some hf
        refine vI [] C hP hD hS (c_X12_figuresOf h11) mv_X12_figuresOf q_1444 rv_X12 dX12_sums_37 ⟨Nat.le_of_ble_eq_true rfl, Nat.le_of_ble_eq_true rfl⟩ ⟨Nat.zero_le _, Nat.zero_le _⟩ rfl rfl (Nat.le_of_ble_eq_true rfl) hl.1 (fun H locs hP hD hS => ?_)
        refine lv_istore (lv' := [(4, .int r12), (0, .ref (a 0)), (1, .int p1), (2, .int p2), (3, .int p3)]) hx hb dX12_sums_40 hl (by decide) rfl (fun ls hl => ?_)
        refine lv_iconst (v := 0) hx hb dX12_sums_42 (by decide) ?_
        refine lv_istore (lv' := [(5, .int (0 : Int32)), (4, .int r12), (0, .ref (a 0)), (1, .int p1), (2, .int p2), (3, .int p3)]) hx hb dX12_sums_43 hl (by decide) rfl (fun ls hl => ?_)
        exact w_X12_sums_b45 C hQ 256 _ _ _ _ _ _ _ _ _ hf hP hD hS (lv_sub hl [2, 3, 4, 5, 1, 0] rfl)
      · replace hf := ipos c10 hf
        refine lv_ldc2 hx hb hown (hts _ q_1326) dX12_sums_31 ?_
        exact retL hQ hf dX12_sums_34 hP hD hS
theorem dX12_stop_0 : decode cX12_stop 0 = .ok (.aload_n 0, 1) := by decide +kernel
theorem dX12_stop_1 : decode cX12_stop 1 = .ok (.iload_n 1, 1) := by decide +kernel
theorem dX12_stop_2 : decode cX12_stop 2 = .ok (.invokevirtual 116, 3) := by decide +kernel
theorem dX12_stop_5 : decode cX12_stop 5 = .ok (.ifCond .eq 15, 3) := by decide +kernel
theorem dX12_stop_8 : decode cX12_stop 8 = .ok (.iload_n 2, 1) := by decide +kernel
theorem dX12_stop_9 : decode cX12_stop 9 = .ok (.i2l, 1) := by decide +kernel
theorem dX12_stop_10 : decode cX12_stop 10 = .ok (.lconst 0, 1) := by decide +kernel
theorem dX12_stop_11 : decode cX12_stop 11 = .ok (.ldc2_w 261, 3) := by decide +kernel
theorem dX12_stop_14 : decode cX12_stop 14 = .ok (.invokestatic 91, 3) := by decide +kernel
theorem dX12_stop_17 : decode cX12_stop 17 = .ok (.ifCond .ne 5, 3) := by decide +kernel
theorem dX12_stop_20 : decode cX12_stop 20 = .ok (.iconst (-1), 1) := by decide +kernel
theorem dX12_stop_21 : decode cX12_stop 21 = .ok (.ireturn, 1) := by decide +kernel
theorem dX12_stop_22 : decode cX12_stop 22 = .ok (.iconst 0, 1) := by decide +kernel
theorem dX12_stop_23 : decode cX12_stop 23 = .ok (.istore_n 3, 1) := by decide +kernel
theorem dX12_stop_24 : decode cX12_stop 24 = .ok (.iload_n 3, 1) := by decide +kernel
theorem dX12_stop_25 : decode cX12_stop 25 = .ok (.aload_n 0, 1) := by decide +kernel
theorem dX12_stop_26 : decode cX12_stop 26 = .ok (.getfield 24, 3) := by decide +kernel
theorem dX12_stop_29 : decode cX12_stop 29 = .ok (.iload_n 1, 1) := by decide +kernel
theorem dX12_stop_30 : decode cX12_stop 30 = .ok (.iaload, 1) := by decide +kernel
theorem dX12_stop_31 : decode cX12_stop 31 = .ok (.if_icmp .ge 66, 3) := by decide +kernel
theorem dX12_stop_34 : decode cX12_stop 34 = .ok (.aload_n 0, 1) := by decide +kernel
theorem dX12_stop_35 : decode cX12_stop 35 = .ok (.iload_n 1, 1) := by decide +kernel
theorem dX12_stop_36 : decode cX12_stop 36 = .ok (.iload_n 3, 1) := by decide +kernel
theorem dX12_stop_37 : decode cX12_stop 37 = .ok (.invokevirtual 136, 3) := by decide +kernel
theorem dX12_stop_40 : decode cX12_stop 40 = .ok (.istore 4, 2) := by decide +kernel
theorem dX12_stop_42 : decode cX12_stop 42 = .ok (.bipush 100, 2) := by decide +kernel
theorem dX12_stop_44 : decode cX12_stop 44 = .ok (.aload_n 0, 1) := by decide +kernel
theorem dX12_stop_45 : decode cX12_stop 45 = .ok (.iload 4, 2) := by decide +kernel
theorem dX12_stop_47 : decode cX12_stop 47 = .ok (.iload 4, 2) := by decide +kernel
theorem dX12_stop_49 : decode cX12_stop 49 = .ok (.i2l, 1) := by decide +kernel
theorem dX12_stop_50 : decode cX12_stop 50 = .ok (.iconst 0, 1) := by decide +kernel
theorem dX12_stop_51 : decode cX12_stop 51 = .ok (.invokevirtual 206, 3) := by decide +kernel
theorem dX12_stop_54 : decode cX12_stop 54 = .ok (.isub, 1) := by decide +kernel
theorem dX12_stop_55 : decode cX12_stop 55 = .ok (.istore 5, 2) := by decide +kernel
theorem dX12_stop_57 : decode cX12_stop 57 = .ok (.bipush 100, 2) := by decide +kernel
theorem dX12_stop_59 : decode cX12_stop 59 = .ok (.aload_n 0, 1) := by decide +kernel
theorem dX12_stop_60 : decode cX12_stop 60 = .ok (.getfield 11, 3) := by decide +kernel
theorem dX12_stop_63 : decode cX12_stop 63 = .ok (.sipush 154, 3) := by decide +kernel
theorem dX12_stop_66 : decode cX12_stop 66 = .ok (.iload 4, 2) := by decide +kernel
theorem dX12_stop_68 : decode cX12_stop 68 = .ok (.iadd, 1) := by decide +kernel
theorem dX12_stop_69 : decode cX12_stop 69 = .ok (.iaload, 1) := by decide +kernel
theorem dX12_stop_70 : decode cX12_stop 70 = .ok (.iconst 1, 1) := by decide +kernel
theorem dX12_stop_71 : decode cX12_stop 71 = .ok (.isub, 1) := by decide +kernel
theorem dX12_stop_72 : decode cX12_stop 72 = .ok (.imul, 1) := by decide +kernel
theorem dX12_stop_73 : decode cX12_stop 73 = .ok (.iload 5, 2) := by decide +kernel
theorem dX12_stop_75 : decode cX12_stop 75 = .ok (.aload_n 0, 1) := by decide +kernel
theorem dX12_stop_76 : decode cX12_stop 76 = .ok (.getfield 24, 3) := by decide +kernel
theorem dX12_stop_79 : decode cX12_stop 79 = .ok (.iload_n 1, 1) := by decide +kernel
theorem dX12_stop_80 : decode cX12_stop 80 = .ok (.iaload, 1) := by decide +kernel
theorem dX12_stop_81 : decode cX12_stop 81 = .ok (.iload_n 3, 1) := by decide +kernel
theorem dX12_stop_82 : decode cX12_stop 82 = .ok (.isub, 1) := by decide +kernel
theorem dX12_stop_83 : decode cX12_stop 83 = .ok (.iload_n 2, 1) := by decide +kernel
theorem dX12_stop_84 : decode cX12_stop 84 = .ok (.iadd, 1) := by decide +kernel
theorem dX12_stop_85 : decode cX12_stop 85 = .ok (.imul, 1) := by decide +kernel
theorem dX12_stop_86 : decode cX12_stop 86 = .ok (.if_icmp .ge 5, 3) := by decide +kernel
theorem dX12_stop_89 : decode cX12_stop 89 = .ok (.iload_n 3, 1) := by decide +kernel
theorem dX12_stop_90 : decode cX12_stop 90 = .ok (.ireturn, 1) := by decide +kernel
theorem dX12_stop_91 : decode cX12_stop 91 = .ok (.iinc 3 1, 3) := by decide +kernel
theorem dX12_stop_94 : decode cX12_stop 94 = .ok (.goto (-70), 3) := by decide +kernel
theorem dX12_stop_97 : decode cX12_stop 97 = .ok (.bipush (-2), 2) := by decide +kernel
theorem dX12_stop_99 : decode cX12_stop 99 = .ok (.ireturn, 1) := by decide +kernel
def f_X12_stop_b24 : Nat → St → Int32 → Int32 → Int32 → Option (Int32 × St)
  | 0, _, _, _, _ => none
  | n + 1, σ, x1, x2, x3 => chk (x1 < 0 ∨ 10 ≤ x1.toNatClampNeg) (if σ.2.2.1 607 0 x1.toNatClampNeg ≤ x3 then (some ((-2 : Int32), σ)) else (bnd2 (f_X12_at1 σ x1 x3) (fun r11 σ12 => bnd2 (f_X12_partOfHeard σ12 r11 ((r11 : Int32).toInt64) (0 : Int32)) (fun r14 σ15 => bnd ((100 : Int32) - r14) (fun v16 => chk ((154 : Int32) + r11 < 0 ∨ 179 ≤ ((154 : Int32) + r11).toNatClampNeg) (chk (x1 < 0 ∨ 10 ≤ x1.toNatClampNeg) (if v16 * (((σ15.2.2.1 607 0 x1.toNatClampNeg) - x3) + x2) ≤ (100 : Int32) * ((σ15.2.2.1 600 0 ((154 : Int32) + r11).toNatClampNeg) - (1 : Int32)) then (bnd (x3 + 1) (fun v20 => f_X12_stop_b24 n σ15 x1 x2 v20)) else (some (x3, σ15)))))))))
def f_X12_stop (σ : St) (p1 : Int32) (p2 : Int32) : Option (Int32 × St) := bnd2 (f_X12_isName σ p1) (fun r2 σ3 => if r2 = 0 then (some ((-1 : Int32), σ3)) else (bnd1 (f_X12_within ((p2 : Int32).toInt64) (0 : Int64) (99 : Int64)) (fun r6 => if r6 = 0 then (some ((-1 : Int32), σ3)) else (f_X12_stop_b24 256 σ3 p1 p2 (0 : Int32)))))
set_option maxHeartbeats 4000000 in
set_option maxRecDepth 100000 in
theorem w_X12_stop_b24 {p : Program} {l : Launch} {e : Env} {s : State} {m : MethodId} {args : Array Value} {below : List Frame} {meth : Method} {c : Code} {g : va_G} {ts : ClassId × ClassId × ClassId} {A : Nat → Prop} {Q : State → Prop} {a : Nat → Nat} {r : Int32} {σ' : St} (C : FX p s m args meth c RX12 cX12_stop 6 g ts A) (hQ : RetI p l e (rk 101 2182) s m args below meth c cX12_stop g (WM ts a) A r σ' Q) : ∀ (n : Nat) (σ : St) (x1 : Int32) (x2 : Int32) (x3 : Int32) (H : Heap) (locs : List Loc) (ls : Array Slot), f_X12_stop_b24 n σ x1 x2 x3 = some (r, σ') → va_P g classes (WM ts a σ) H → va_D A (WM ts a σ) → va_S A s.heap H locs → lv_has ls 6 [(0, .ref (a 0)), (1, .int x1), (2, .int x2), (3, .int x3)] → W p l e (rk 101 2182) s m args below meth c H locs 0 0 Q (F0 m 24 ls []) := by
  have hx := C.1
  have hb := C.2.1
  have hown := C.2.2.2.1
  have hts := C.2.2.2.2.1
  intro n
  induction n with
  | zero =>
    intro σ x1 x2 x3 H locs ls hf
    cases hf
  | succ n ih =>
    intro σ x1 x2 x3 H locs ls hf hP hD hS hl
    rw [f_X12_stop_b24] at hf
    refine lv_iload_n hx hb dX12_stop_24 rfl (lv_at hl 3 rfl) ?_
    refine lv_aload_n hx hb dX12_stop_25 rfl (lv_at hl 0 rfl) ?_
    refine G_X12_longs C hP q_1079 dX12_stop_26 ?_
    refine lv_iload_n hx hb dX12_stop_29 rfl (lv_at hl 1 rfl) ?_
    obtain ⟨h8, hf⟩ := chk_some hf
    refine AL_X12_longs C hP h8 dX12_stop_30 ?_
    refine lv_icmp_ge (tgt := 97) hx hb dX12_stop_31 (by decide) (fun c9 => ?_) (fun c9 => ?_)
    · replace hf := ipos c9 hf
      refine lv_bipush (v := -2) hx hb dX12_stop_97 (by decide) ?_
      exact retI hQ hf dX12_stop_99 hP hD hS
    · replace hf := ineg c9 hf
      refine lv_aload_n hx hb dX12_stop_34 rfl (lv_at hl 0 rfl) ?_
      refine lv_iload_n hx hb dX12_stop_35 rfl (lv_at hl 1 rfl) ?_
      refine lv_iload_n hx hb dX12_stop_36 rfl (lv_at hl 3 rfl) ?_
      obtain ⟨r11, σ12, h10, hf⟩ := bnd2_some hf
      refine vI [] C hP hD hS (c_X12_at1 h10) mv_X12_at1 q_1266 rv_X12 dX12_stop_37 ⟨Nat.le_of_ble_eq_true rfl, Nat.le_of_ble_eq_true rfl⟩ ⟨Nat.zero_le _, Nat.zero_le _⟩ rfl rfl (Nat.le_of_ble_eq_true rfl) hl.1 (fun H locs hP hD hS => ?_)
      refine lv_istore (lv' := [(4, .int r11), (0, .ref (a 0)), (1, .int x1), (2, .int x2), (3, .int x3)]) hx hb dX12_stop_40 hl (by decide) rfl (fun ls hl => ?_)
      refine lv_bipush (v := 100) hx hb dX12_stop_42 (by decide) ?_
      refine lv_aload_n hx hb dX12_stop_44 rfl (lv_at hl 1 rfl) ?_
      refine lv_iload hx hb dX12_stop_45 (lv_at hl 0 rfl) ?_
      refine lv_iload hx hb dX12_stop_47 (lv_at hl 0 rfl) ?_
      refine lv_i2l (v := (r11 : Int32).toInt64) hx hb dX12_stop_49 rfl ?_
      refine lv_iconst (v := 0) hx hb dX12_stop_50 (by decide) ?_
      obtain ⟨r14, σ15, h13, hf⟩ := bnd2_some hf
      refine vI [.int (100 : Int32)] C hP hD hS (c_X12_partOfHeard h13) mv_X12_partOfHeard q_1349 rv_X12 dX12_stop_51 ⟨Nat.le_of_ble_eq_true rfl, Nat.le_of_ble_eq_true rfl⟩ ⟨Nat.zero_le _, Nat.zero_le _⟩ rfl rfl (Nat.le_of_ble_eq_true rfl) hl.1 (fun H locs hP hD hS => ?_)
      refine lv_isub hx hb dX12_stop_54 ?_
      refine lv_topi (fun v16 ev16 => ?_)
      replace hf := bnd_at ev16 hf
      refine lv_istore (lv' := [(5, .int v16), (4, .int r11), (0, .ref (a 0)), (1, .int x1), (2, .int x2), (3, .int x3)]) hx hb dX12_stop_55 hl (by decide) rfl (fun ls hl => ?_)
      refine lv_bipush (v := 100) hx hb dX12_stop_57 (by decide) ?_
      refine lv_aload_n hx hb dX12_stop_59 rfl (lv_at hl 2 rfl) ?_
      refine G_X12_may C hP q_1072 dX12_stop_60 ?_
      refine lv_sipush (v := 154) hx hb dX12_stop_63 (by decide) ?_
      refine lv_iload hx hb dX12_stop_66 (lv_at hl 1 rfl) ?_
      refine lv_iadd hx hb dX12_stop_68 ?_
      obtain ⟨h17, hf⟩ := chk_some hf
      refine AL_X12_may C hP h17 dX12_stop_69 ?_
      refine lv_iconst (v := 1) hx hb dX12_stop_70 (by decide) ?_
      refine lv_isub hx hb dX12_stop_71 ?_
      refine lv_imul hx hb dX12_stop_72 ?_
      refine lv_iload hx hb dX12_stop_73 (lv_at hl 0 rfl) ?_
      refine lv_aload_n hx hb dX12_stop_75 rfl (lv_at hl 2 rfl) ?_
      refine G_X12_longs C hP q_1079 dX12_stop_76 ?_
      refine lv_iload_n hx hb dX12_stop_79 rfl (lv_at hl 3 rfl) ?_
      obtain ⟨h18, hf⟩ := chk_some hf
      refine AL_X12_longs C hP h18 dX12_stop_80 ?_
      refine lv_iload_n hx hb dX12_stop_81 rfl (lv_at hl 5 rfl) ?_
      refine lv_isub hx hb dX12_stop_82 ?_
      refine lv_iload_n hx hb dX12_stop_83 rfl (lv_at hl 4 rfl) ?_
      refine lv_iadd hx hb dX12_stop_84 ?_
      refine lv_imul hx hb dX12_stop_85 ?_
      refine lv_icmp_ge (tgt := 91) hx hb dX12_stop_86 (by decide) (fun c19 => ?_) (fun c19 => ?_)
      · replace hf := ipos c19 hf
        obtain ⟨v20, ev20⟩ : ∃ z : Int32, z = x3 + 1 := ⟨_, rfl⟩
        replace hf := bnd_at ev20 hf
        refine lv_iinc (v := v20) (lv' := [(3, .int v20), (5, .int v16), (4, .int r11), (0, .ref (a 0)), (1, .int x1), (2, .int x2)]) hx hb dX12_stop_91 hl (k := 5) rfl (by rw [ev20]; rfl) (by decide) rfl (fun ls hl => ?_)
        refine lv_goto (tgt := 24) hx hb dX12_stop_94 (by decide) ?_
        exact ih _ _ _ _ _ _ _ hf hP hD hS (lv_sub hl [3, 4, 5, 0] rfl)
      · replace hf := ineg c19 hf
        refine lv_iload_n hx hb dX12_stop_89 rfl (lv_at hl 5 rfl) ?_
        exact retI hQ hf dX12_stop_90 hP hD hS
set_option maxHeartbeats 4000000 in
set_option maxRecDepth 100000 in
theorem c_X12_stop {l : Launch} {g : va_G} {ts : ClassId × ClassId × ClassId} {a : Nat → Nat} {σ : St} {p1 : Int32} {p2 : Int32} {r : Int32} {σ' : St} (hf : f_X12_stop σ p1 p2 = some (r, σ')) : ConI l g ts (WM ts a) yX12_stop cX12_stop 6 (some .int) (rk 101 2182) σ [.ref (a 0), .int p1, .int p2] r σ' := by
  refine ConI_mk .int rfl rfl rfl rfl (by decide) (Nat.le_of_ble_eq_true rfl) ?_
  intro p e s m below meth c A Q ls C hQ hP hD hS hl
  have C : FX p s m _ meth c RX12 cX12_stop 6 g ts A := C
  have hx := C.1
  have hb := C.2.1
  have hown := C.2.2.2.1
  have hts := C.2.2.2.2.1
  have hl : lv_has ls 6 [(0, .ref (a 0)), (1, .int p1), (2, .int p2)] := hl
  rw [f_X12_stop] at hf
  refine lv_aload_n hx hb dX12_stop_0 rfl (lv_at hl 0 rfl) ?_
  refine lv_iload_n hx hb dX12_stop_1 rfl (lv_at hl 1 rfl) ?_
  obtain ⟨r2, σ3, h1, hf⟩ := bnd2_some hf
  refine vI [] C hP hD hS (c_X12_isName h1) mv_X12_isName q_1242 rv_X12 dX12_stop_2 ⟨Nat.le_of_ble_eq_true rfl, Nat.le_of_ble_eq_true rfl⟩ ⟨Nat.zero_le _, Nat.zero_le _⟩ rfl rfl (Nat.le_of_ble_eq_true rfl) hl.1 (fun H locs hP hD hS => ?_)
  refine lv_if_eq (tgt := 20) hx hb dX12_stop_5 (by decide) (fun c4 => ?_) (fun c4 => ?_)
  · replace hf := ipos c4 hf
    refine lv_iconst (v := -1) hx hb dX12_stop_20 (by decide) ?_
    exact retI hQ hf dX12_stop_21 hP hD hS
  · replace hf := ineg c4 hf
    refine lv_iload_n hx hb dX12_stop_8 rfl (lv_at hl 2 rfl) ?_
    refine lv_i2l (v := (p2 : Int32).toInt64) hx hb dX12_stop_9 rfl ?_
    refine lv_lconst (v := 0) hx hb dX12_stop_10 (by decide) ?_
    refine lv_ldc2 hx hb hown (hts _ q_1452) dX12_stop_11 ?_
    obtain ⟨r6, h5, hf⟩ := bnd1_some hf
    refine tI [] C hP hD hS (c_X12_within h5) ms_X12_within q_1218 dX12_stop_14 ⟨Nat.le_of_ble_eq_true rfl, Nat.le_of_ble_eq_true rfl⟩ ⟨Nat.zero_le _, Nat.zero_le _⟩ rfl rfl (Nat.le_of_ble_eq_true rfl) hl.1 (fun H locs hP hD hS => ?_)
    refine lv_if_ne (tgt := 22) hx hb dX12_stop_17 (by decide) (fun c7 => ?_) (fun c7 => ?_)
    · replace hf := ineg c7 hf
      refine lv_iconst (v := 0) hx hb dX12_stop_22 (by decide) ?_
      refine lv_istore_n (lv' := [(3, .int (0 : Int32)), (0, .ref (a 0)), (1, .int p1), (2, .int p2)]) hx hb dX12_stop_23 rfl hl (by decide) rfl (fun ls hl => ?_)
      exact w_X12_stop_b24 C hQ 256 _ _ _ _ _ _ _ hf hP hD hS (lv_sub hl [1, 2, 3, 0] rfl)
    · replace hf := ipos c7 hf
      refine lv_iconst (v := -1) hx hb dX12_stop_20 (by decide) ?_
      exact retI hQ hf dX12_stop_21 hP hD hS
theorem dX12_misfit_0 : decode cX12_misfit 0 = .ok (.aload_n 0, 1) := by decide +kernel
theorem dX12_misfit_1 : decode cX12_misfit 1 = .ok (.getfield 67, 3) := by decide +kernel
theorem dX12_misfit_4 : decode cX12_misfit 4 = .ok (.iload_n 1, 1) := by decide +kernel
theorem dX12_misfit_5 : decode cX12_misfit 5 = .ok (.iaload, 1) := by decide +kernel
theorem dX12_misfit_6 : decode cX12_misfit 6 = .ok (.aload_n 0, 1) := by decide +kernel
theorem dX12_misfit_7 : decode cX12_misfit 7 = .ok (.getfield 24, 3) := by decide +kernel
theorem dX12_misfit_10 : decode cX12_misfit 10 = .ok (.iload_n 2, 1) := by decide +kernel
theorem dX12_misfit_11 : decode cX12_misfit 11 = .ok (.iaload, 1) := by decide +kernel
theorem dX12_misfit_12 : decode cX12_misfit 12 = .ok (.if_icmp .le 12, 3) := by decide +kernel
theorem dX12_misfit_15 : decode cX12_misfit 15 = .ok (.aload_n 0, 1) := by decide +kernel
theorem dX12_misfit_16 : decode cX12_misfit 16 = .ok (.getfield 67, 3) := by decide +kernel
theorem dX12_misfit_19 : decode cX12_misfit 19 = .ok (.iload_n 1, 1) := by decide +kernel
theorem dX12_misfit_20 : decode cX12_misfit 20 = .ok (.iaload, 1) := by decide +kernel
theorem dX12_misfit_21 : decode cX12_misfit 21 = .ok (.goto 9, 3) := by decide +kernel
theorem dX12_misfit_24 : decode cX12_misfit 24 = .ok (.aload_n 0, 1) := by decide +kernel
theorem dX12_misfit_25 : decode cX12_misfit 25 = .ok (.getfield 24, 3) := by decide +kernel
theorem dX12_misfit_28 : decode cX12_misfit 28 = .ok (.iload_n 2, 1) := by decide +kernel
theorem dX12_misfit_29 : decode cX12_misfit 29 = .ok (.iaload, 1) := by decide +kernel
theorem dX12_misfit_30 : decode cX12_misfit 30 = .ok (.istore_n 3, 1) := by decide +kernel
theorem dX12_misfit_31 : decode cX12_misfit 31 = .ok (.iconst 0, 1) := by decide +kernel
theorem dX12_misfit_32 : decode cX12_misfit 32 = .ok (.istore 4, 2) := by decide +kernel
theorem dX12_misfit_34 : decode cX12_misfit 34 = .ok (.iload 4, 2) := by decide +kernel
theorem dX12_misfit_36 : decode cX12_misfit 36 = .ok (.iload_n 3, 1) := by decide +kernel
theorem dX12_misfit_37 : decode cX12_misfit 37 = .ok (.if_icmp .ge 56, 3) := by decide +kernel
theorem dX12_misfit_40 : decode cX12_misfit 40 = .ok (.iload 4, 2) := by decide +kernel
theorem dX12_misfit_42 : decode cX12_misfit 42 = .ok (.aload_n 0, 1) := by decide +kernel
theorem dX12_misfit_43 : decode cX12_misfit 43 = .ok (.getfield 67, 3) := by decide +kernel
theorem dX12_misfit_46 : decode cX12_misfit 46 = .ok (.iload_n 1, 1) := by decide +kernel
theorem dX12_misfit_47 : decode cX12_misfit 47 = .ok (.iaload, 1) := by decide +kernel
theorem dX12_misfit_48 : decode cX12_misfit 48 = .ok (.if_icmp .ge 36, 3) := by decide +kernel
theorem dX12_misfit_51 : decode cX12_misfit 51 = .ok (.iload 4, 2) := by decide +kernel
theorem dX12_misfit_53 : decode cX12_misfit 53 = .ok (.aload_n 0, 1) := by decide +kernel
theorem dX12_misfit_54 : decode cX12_misfit 54 = .ok (.getfield 24, 3) := by decide +kernel
theorem dX12_misfit_57 : decode cX12_misfit 57 = .ok (.iload_n 2, 1) := by decide +kernel
theorem dX12_misfit_58 : decode cX12_misfit 58 = .ok (.iaload, 1) := by decide +kernel
theorem dX12_misfit_59 : decode cX12_misfit 59 = .ok (.if_icmp .ge 25, 3) := by decide +kernel
theorem dX12_misfit_62 : decode cX12_misfit 62 = .ok (.aload_n 0, 1) := by decide +kernel
theorem dX12_misfit_63 : decode cX12_misfit 63 = .ok (.aload_n 0, 1) := by decide +kernel
theorem dX12_misfit_64 : decode cX12_misfit 64 = .ok (.iload_n 2, 1) := by decide +kernel
theorem dX12_misfit_65 : decode cX12_misfit 65 = .ok (.iload 4, 2) := by decide +kernel
theorem dX12_misfit_67 : decode cX12_misfit 67 = .ok (.invokevirtual 136, 3) := by decide +kernel
theorem dX12_misfit_70 : decode cX12_misfit 70 = .ok (.aload_n 0, 1) := by decide +kernel
theorem dX12_misfit_71 : decode cX12_misfit 71 = .ok (.iload_n 1, 1) := by decide +kernel
theorem dX12_misfit_72 : decode cX12_misfit 72 = .ok (.iload 4, 2) := by decide +kernel
theorem dX12_misfit_74 : decode cX12_misfit 74 = .ok (.invokevirtual 108, 3) := by decide +kernel
theorem dX12_misfit_77 : decode cX12_misfit 77 = .ok (.iconst 0, 1) := by decide +kernel
theorem dX12_misfit_78 : decode cX12_misfit 78 = .ok (.invokevirtual 206, 3) := by decide +kernel
theorem dX12_misfit_81 : decode cX12_misfit 81 = .ok (.ifCond .ne 6, 3) := by decide +kernel
theorem dX12_misfit_84 : decode cX12_misfit 84 = .ok (.iload 4, 2) := by decide +kernel
theorem dX12_misfit_86 : decode cX12_misfit 86 = .ok (.ireturn, 1) := by decide +kernel
theorem dX12_misfit_87 : decode cX12_misfit 87 = .ok (.iinc 4 1, 3) := by decide +kernel
theorem dX12_misfit_90 : decode cX12_misfit 90 = .ok (.goto (-56), 3) := by decide +kernel
theorem dX12_misfit_93 : decode cX12_misfit 93 = .ok (.bipush (-2), 2) := by decide +kernel
theorem dX12_misfit_95 : decode cX12_misfit 95 = .ok (.ireturn, 1) := by decide +kernel
def f_X12_misfit_b34 : Nat → St → Int32 → Int32 → Int32 → Int32 → Option (Int32 × St)
  | 0, _, _, _, _, _ => none
  | n + 1, σ, x1, x2, x3, x4 => if x3 ≤ x4 then (some ((-2 : Int32), σ)) else (chk (x1 < 0 ∨ 6 ≤ x1.toNatClampNeg) (if σ.2.2.1 640 0 x1.toNatClampNeg ≤ x4 then (some (x4, σ)) else (chk (x2 < 0 ∨ 10 ≤ x2.toNatClampNeg) (if σ.2.2.1 607 0 x2.toNatClampNeg ≤ x4 then (some (x4, σ)) else (bnd2 (f_X12_at1 σ x2 x4) (fun r14 σ15 => bnd2 (f_X12_itemAt σ15 x1 x4) (fun r17 σ18 => bnd2 (f_X12_partOfHeard σ18 r14 r17 (0 : Int32)) (fun r20 σ21 => if r20 = 0 then (some (x4, σ21)) else (bnd (x4 + 1) (fun v23 => f_X12_misfit_b34 n σ21 x1 x2 x3 v23))))))))))
def f_X12_misfit (σ : St) (p1 : Int32) (p2 : Int32) : Option (Int32 × St) := chk (p1 < 0 ∨ 6 ≤ p1.toNatClampNeg) (chk (p2 < 0 ∨ 10 ≤ p2.toNatClampNeg) (if σ.2.2.1 640 0 p1.toNatClampNeg ≤ σ.2.2.1 607 0 p2.toNatClampNeg then (chk (p2 < 0 ∨ 10 ≤ p2.toNatClampNeg) (bnd (σ.2.2.1 607 0 p2.toNatClampNeg) (fun v5 => f_X12_misfit_b34 256 σ p1 p2 v5 (0 : Int32)))) else (chk (p1 < 0 ∨ 6 ≤ p1.toNatClampNeg) (bnd (σ.2.2.1 640 0 p1.toNatClampNeg) (fun v7 => f_X12_misfit_b34 256 σ p1 p2 v7 (0 : Int32))))))
set_option maxHeartbeats 4000000 in
set_option maxRecDepth 100000 in
theorem w_X12_misfit_b34 {p : Program} {l : Launch} {e : Env} {s : State} {m : MethodId} {args : Array Value} {below : List Frame} {meth : Method} {c : Code} {g : va_G} {ts : ClassId × ClassId × ClassId} {A : Nat → Prop} {Q : State → Prop} {a : Nat → Nat} {r : Int32} {σ' : St} (C : FX p s m args meth c RX12 cX12_misfit 5 g ts A) (hQ : RetI p l e (rk 101 2182) s m args below meth c cX12_misfit g (WM ts a) A r σ' Q) : ∀ (n : Nat) (σ : St) (x1 : Int32) (x2 : Int32) (x3 : Int32) (x4 : Int32) (H : Heap) (locs : List Loc) (ls : Array Slot), f_X12_misfit_b34 n σ x1 x2 x3 x4 = some (r, σ') → va_P g classes (WM ts a σ) H → va_D A (WM ts a σ) → va_S A s.heap H locs → lv_has ls 5 [(0, .ref (a 0)), (1, .int x1), (2, .int x2), (3, .int x3), (4, .int x4)] → W p l e (rk 101 2182) s m args below meth c H locs 0 0 Q (F0 m 34 ls []) := by
  have hx := C.1
  have hb := C.2.1
  have hown := C.2.2.2.1
  have hts := C.2.2.2.2.1
  intro n
  induction n with
  | zero =>
    intro σ x1 x2 x3 x4 H locs ls hf
    cases hf
  | succ n ih =>
    intro σ x1 x2 x3 x4 H locs ls hf hP hD hS hl
    rw [f_X12_misfit_b34] at hf
    refine lv_iload hx hb dX12_misfit_34 (lv_at hl 4 rfl) ?_
    refine lv_iload_n hx hb dX12_misfit_36 rfl (lv_at hl 3 rfl) ?_
    refine lv_icmp_ge (tgt := 93) hx hb dX12_misfit_37 (by decide) (fun c8 => ?_) (fun c8 => ?_)
    · replace hf := ipos c8 hf
      refine lv_bipush (v := -2) hx hb dX12_misfit_93 (by decide) ?_
      exact retI hQ hf dX12_misfit_95 hP hD hS
    · replace hf := ineg c8 hf
      refine lv_iload hx hb dX12_misfit_40 (lv_at hl 4 rfl) ?_
      refine lv_aload_n hx hb dX12_misfit_42 rfl (lv_at hl 0 rfl) ?_
      refine G_X12_many C hP q_1112 dX12_misfit_43 ?_
      refine lv_iload_n hx hb dX12_misfit_46 rfl (lv_at hl 1 rfl) ?_
      obtain ⟨h9, hf⟩ := chk_some hf
      refine AL_X12_many C hP h9 dX12_misfit_47 ?_
      refine lv_icmp_ge (tgt := 84) hx hb dX12_misfit_48 (by decide) (fun c10 => ?_) (fun c10 => ?_)
      · replace hf := ipos c10 hf
        refine lv_iload hx hb dX12_misfit_84 (lv_at hl 4 rfl) ?_
        exact retI hQ hf dX12_misfit_86 hP hD hS
      · replace hf := ineg c10 hf
        refine lv_iload hx hb dX12_misfit_51 (lv_at hl 4 rfl) ?_
        refine lv_aload_n hx hb dX12_misfit_53 rfl (lv_at hl 0 rfl) ?_
        refine G_X12_longs C hP q_1079 dX12_misfit_54 ?_
        refine lv_iload_n hx hb dX12_misfit_57 rfl (lv_at hl 2 rfl) ?_
        obtain ⟨h11, hf⟩ := chk_some hf
        refine AL_X12_longs C hP h11 dX12_misfit_58 ?_
        refine lv_icmp_ge (tgt := 84) hx hb dX12_misfit_59 (by decide) (fun c12 => ?_) (fun c12 => ?_)
        · replace hf := ipos c12 hf
          refine lv_iload hx hb dX12_misfit_84 (lv_at hl 4 rfl) ?_
          exact retI hQ hf dX12_misfit_86 hP hD hS
        · replace hf := ineg c12 hf
          refine lv_aload_n hx hb dX12_misfit_62 rfl (lv_at hl 0 rfl) ?_
          refine lv_aload_n hx hb dX12_misfit_63 rfl (lv_at hl 0 rfl) ?_
          refine lv_iload_n hx hb dX12_misfit_64 rfl (lv_at hl 2 rfl) ?_
          refine lv_iload hx hb dX12_misfit_65 (lv_at hl 4 rfl) ?_
          obtain ⟨r14, σ15, h13, hf⟩ := bnd2_some hf
          refine vI [.ref (a 0)] C hP hD hS (c_X12_at1 h13) mv_X12_at1 q_1266 rv_X12 dX12_misfit_67 ⟨Nat.le_of_ble_eq_true rfl, Nat.le_of_ble_eq_true rfl⟩ ⟨Nat.zero_le _, Nat.zero_le _⟩ rfl rfl (Nat.le_of_ble_eq_true rfl) hl.1 (fun H locs hP hD hS => ?_)
          refine lv_aload_n hx hb dX12_misfit_70 rfl (lv_at hl 0 rfl) ?_
          refine lv_iload_n hx hb dX12_misfit_71 rfl (lv_at hl 1 rfl) ?_
          refine lv_iload hx hb dX12_misfit_72 (lv_at hl 4 rfl) ?_
          obtain ⟨r17, σ18, h16, hf⟩ := bnd2_some hf
          refine vL [.int r14, .ref (a 0)] C hP hD hS (c_X12_itemAt h16) mv_X12_itemAt q_1226 rv_X12 dX12_misfit_74 ⟨Nat.le_of_ble_eq_true rfl, Nat.le_of_ble_eq_true rfl⟩ ⟨Nat.zero_le _, Nat.zero_le _⟩ rfl rfl (Nat.le_of_ble_eq_true rfl) hl.1 (fun H locs hP hD hS => ?_)
          refine lv_iconst (v := 0) hx hb dX12_misfit_77 (by decide) ?_
          obtain ⟨r20, σ21, h19, hf⟩ := bnd2_some hf
          refine vI [] C hP hD hS (c_X12_partOfHeard h19) mv_X12_partOfHeard q_1349 rv_X12 dX12_misfit_78 ⟨Nat.le_of_ble_eq_true rfl, Nat.le_of_ble_eq_true rfl⟩ ⟨Nat.zero_le _, Nat.zero_le _⟩ rfl rfl (Nat.le_of_ble_eq_true rfl) hl.1 (fun H locs hP hD hS => ?_)
          refine lv_if_ne (tgt := 87) hx hb dX12_misfit_81 (by decide) (fun c22 => ?_) (fun c22 => ?_)
          · replace hf := ineg c22 hf
            obtain ⟨v23, ev23⟩ : ∃ z : Int32, z = x4 + 1 := ⟨_, rfl⟩
            replace hf := bnd_at ev23 hf
            refine lv_iinc (v := v23) (lv' := [(4, .int v23), (0, .ref (a 0)), (1, .int x1), (2, .int x2), (3, .int x3)]) hx hb dX12_misfit_87 hl (k := 4) rfl (by rw [ev23]; rfl) (by decide) rfl (fun ls hl => ?_)
            refine lv_goto (tgt := 34) hx hb dX12_misfit_90 (by decide) ?_
            exact ih _ _ _ _ _ _ _ _ hf hP hD hS (lv_sub hl [1, 2, 3, 4, 0] rfl)
          · replace hf := ipos c22 hf
            refine lv_iload hx hb dX12_misfit_84 (lv_at hl 4 rfl) ?_
            exact retI hQ hf dX12_misfit_86 hP hD hS
set_option maxHeartbeats 4000000 in
set_option maxRecDepth 100000 in
theorem c_X12_misfit {l : Launch} {g : va_G} {ts : ClassId × ClassId × ClassId} {a : Nat → Nat} {σ : St} {p1 : Int32} {p2 : Int32} {r : Int32} {σ' : St} (hf : f_X12_misfit σ p1 p2 = some (r, σ')) : ConI l g ts (WM ts a) yX12_misfit cX12_misfit 5 (some .int) (rk 101 2182) σ [.ref (a 0), .int p1, .int p2] r σ' := by
  refine ConI_mk .int rfl rfl rfl rfl (by decide) (Nat.le_of_ble_eq_true rfl) ?_
  intro p e s m below meth c A Q ls C hQ hP hD hS hl
  have C : FX p s m _ meth c RX12 cX12_misfit 5 g ts A := C
  have hx := C.1
  have hb := C.2.1
  have hown := C.2.2.2.1
  have hts := C.2.2.2.2.1
  have hl : lv_has ls 5 [(0, .ref (a 0)), (1, .int p1), (2, .int p2)] := hl
  rw [f_X12_misfit] at hf
  refine lv_aload_n hx hb dX12_misfit_0 rfl (lv_at hl 0 rfl) ?_
  refine G_X12_many C hP q_1112 dX12_misfit_1 ?_
  refine lv_iload_n hx hb dX12_misfit_4 rfl (lv_at hl 1 rfl) ?_
  obtain ⟨h1, hf⟩ := chk_some hf
  refine AL_X12_many C hP h1 dX12_misfit_5 ?_
  refine lv_aload_n hx hb dX12_misfit_6 rfl (lv_at hl 0 rfl) ?_
  refine G_X12_longs C hP q_1079 dX12_misfit_7 ?_
  refine lv_iload_n hx hb dX12_misfit_10 rfl (lv_at hl 2 rfl) ?_
  obtain ⟨h2, hf⟩ := chk_some hf
  refine AL_X12_longs C hP h2 dX12_misfit_11 ?_
  refine lv_icmp_le (tgt := 24) hx hb dX12_misfit_12 (by decide) (fun c3 => ?_) (fun c3 => ?_)
  · replace hf := ipos c3 hf
    refine lv_aload_n hx hb dX12_misfit_24 rfl (lv_at hl 0 rfl) ?_
    refine G_X12_longs C hP q_1079 dX12_misfit_25 ?_
    refine lv_iload_n hx hb dX12_misfit_28 rfl (lv_at hl 2 rfl) ?_
    obtain ⟨h4, hf⟩ := chk_some hf
    refine AL_X12_longs C hP h4 dX12_misfit_29 ?_
    refine lv_topi (fun v5 ev5 => ?_)
    replace hf := bnd_at ev5 hf
    refine lv_istore_n (lv' := [(3, .int v5), (0, .ref (a 0)), (1, .int p1), (2, .int p2)]) hx hb dX12_misfit_30 rfl hl (by decide) rfl (fun ls hl => ?_)
    refine lv_iconst (v := 0) hx hb dX12_misfit_31 (by decide) ?_
    refine lv_istore (lv' := [(4, .int (0 : Int32)), (3, .int v5), (0, .ref (a 0)), (1, .int p1), (2, .int p2)]) hx hb dX12_misfit_32 hl (by decide) rfl (fun ls hl => ?_)
    exact w_X12_misfit_b34 C hQ 256 _ _ _ _ _ _ _ _ hf hP hD hS (lv_sub hl [2, 3, 4, 1, 0] rfl)
  · replace hf := ineg c3 hf
    refine lv_aload_n hx hb dX12_misfit_15 rfl (lv_at hl 0 rfl) ?_
    refine G_X12_many C hP q_1112 dX12_misfit_16 ?_
    refine lv_iload_n hx hb dX12_misfit_19 rfl (lv_at hl 1 rfl) ?_
    obtain ⟨h6, hf⟩ := chk_some hf
    refine AL_X12_many C hP h6 dX12_misfit_20 ?_
    refine lv_goto (tgt := 30) hx hb dX12_misfit_21 (by decide) ?_
    refine lv_topi (fun v7 ev7 => ?_)
    replace hf := bnd_at ev7 hf
    refine lv_istore_n (lv' := [(3, .int v7), (0, .ref (a 0)), (1, .int p1), (2, .int p2)]) hx hb dX12_misfit_30 rfl hl (by decide) rfl (fun ls hl => ?_)
    refine lv_iconst (v := 0) hx hb dX12_misfit_31 (by decide) ?_
    refine lv_istore (lv' := [(4, .int (0 : Int32)), (3, .int v7), (0, .ref (a 0)), (1, .int p1), (2, .int p2)]) hx hb dX12_misfit_32 hl (by decide) rfl (fun ls hl => ?_)
    exact w_X12_misfit_b34 C hQ 256 _ _ _ _ _ _ _ _ hf hP hD hS (lv_sub hl [2, 3, 4, 1, 0] rfl)
theorem dX12_who_0 : decode cX12_who 0 = .ok (.aload_n 0, 1) := by decide +kernel
theorem dX12_who_1 : decode cX12_who 1 = .ok (.iload_n 1, 1) := by decide +kernel
theorem dX12_who_2 : decode cX12_who 2 = .ok (.invokevirtual 104, 3) := by decide +kernel
theorem dX12_who_5 : decode cX12_who 5 = .ok (.ifCond .ge 9, 3) := by decide +kernel
theorem dX12_who_8 : decode cX12_who 8 = .ok (.aload_n 0, 1) := by decide +kernel
theorem dX12_who_9 : decode cX12_who 9 = .ok (.iload_n 1, 1) := by decide +kernel
theorem dX12_who_10 : decode cX12_who 10 = .ok (.invokevirtual 104, 3) := by decide +kernel
theorem dX12_who_13 : decode cX12_who 13 = .ok (.ireturn, 1) := by decide +kernel
theorem dX12_who_14 : decode cX12_who 14 = .ok (.iconst 0, 1) := by decide +kernel
theorem dX12_who_15 : decode cX12_who 15 = .ok (.istore_n 2, 1) := by decide +kernel
theorem dX12_who_16 : decode cX12_who 16 = .ok (.iconst 0, 1) := by decide +kernel
theorem dX12_who_17 : decode cX12_who 17 = .ok (.istore_n 3, 1) := by decide +kernel
theorem dX12_who_18 : decode cX12_who 18 = .ok (.iload_n 3, 1) := by decide +kernel
theorem dX12_who_19 : decode cX12_who 19 = .ok (.aload_n 0, 1) := by decide +kernel
theorem dX12_who_20 : decode cX12_who 20 = .ok (.getfield 95, 3) := by decide +kernel
theorem dX12_who_23 : decode cX12_who 23 = .ok (.if_icmp .ge 30, 3) := by decide +kernel
theorem dX12_who_26 : decode cX12_who 26 = .ok (.iload_n 2, 1) := by decide +kernel
theorem dX12_who_27 : decode cX12_who 27 = .ok (.aload_n 0, 1) := by decide +kernel
theorem dX12_who_28 : decode cX12_who 28 = .ok (.iload_n 1, 1) := by decide +kernel
theorem dX12_who_29 : decode cX12_who 29 = .ok (.iload_n 3, 1) := by decide +kernel
theorem dX12_who_30 : decode cX12_who 30 = .ok (.invokevirtual 263, 3) := by decide +kernel
theorem dX12_who_33 : decode cX12_who 33 = .ok (.bipush (-2), 2) := by decide +kernel
theorem dX12_who_35 : decode cX12_who 35 = .ok (.if_icmp .ne 9, 3) := by decide +kernel
theorem dX12_who_38 : decode cX12_who 38 = .ok (.iconst 1, 1) := by decide +kernel
theorem dX12_who_39 : decode cX12_who 39 = .ok (.iload_n 3, 1) := by decide +kernel
theorem dX12_who_40 : decode cX12_who 40 = .ok (.ishl, 1) := by decide +kernel
theorem dX12_who_41 : decode cX12_who 41 = .ok (.goto 4, 3) := by decide +kernel
theorem dX12_who_44 : decode cX12_who 44 = .ok (.iconst 0, 1) := by decide +kernel
theorem dX12_who_45 : decode cX12_who 45 = .ok (.ior, 1) := by decide +kernel
theorem dX12_who_46 : decode cX12_who 46 = .ok (.istore_n 2, 1) := by decide +kernel
theorem dX12_who_47 : decode cX12_who 47 = .ok (.iinc 3 1, 3) := by decide +kernel
theorem dX12_who_50 : decode cX12_who 50 = .ok (.goto (-32), 3) := by decide +kernel
theorem dX12_who_53 : decode cX12_who 53 = .ok (.iload_n 2, 1) := by decide +kernel
theorem dX12_who_54 : decode cX12_who 54 = .ok (.ireturn, 1) := by decide +kernel
def f_X12_who_b18 : Nat → St → Int32 → Int32 → Int32 → Option (Int32 × St)
  | 0, _, _, _, _ => none
  | n + 1, σ, x1, x2, x3 => if σ.1 606 0 ≤ x3 then (some (x2, σ)) else (bnd2 (f_X12_misfit σ x1 x3) (fun r10 σ11 => if r10 = (-2 : Int32) then (bnd (x2 ||| ((1 : Int32) <<< (x3 &&& 31))) (fun v15 => bnd (x3 + 1) (fun v16 => f_X12_who_b18 n σ11 x1 v15 v16))) else (bnd (x2 ||| (0 : Int32)) (fun v13 => bnd (x3 + 1) (fun v14 => f_X12_who_b18 n σ11 x1 v13 v14)))))
def f_X12_who (σ : St) (p1 : Int32) : Option (Int32 × St) := bnd2 (f_X12_bytesIs σ p1) (fun r2 σ3 => if 0 ≤ r2 then (f_X12_who_b18 256 σ3 p1 (0 : Int32) (0 : Int32)) else (bnd2 (f_X12_bytesIs σ3 p1) (fun r6 σ7 => some (r6, σ7))))
set_option maxHeartbeats 4000000 in
set_option maxRecDepth 100000 in
theorem w_X12_who_b18 {p : Program} {l : Launch} {e : Env} {s : State} {m : MethodId} {args : Array Value} {below : List Frame} {meth : Method} {c : Code} {g : va_G} {ts : ClassId × ClassId × ClassId} {A : Nat → Prop} {Q : State → Prop} {a : Nat → Nat} {r : Int32} {σ' : St} (C : FX p s m args meth c RX12 cX12_who 4 g ts A) (hQ : RetI p l e (rk 102 2206) s m args below meth c cX12_who g (WM ts a) A r σ' Q) : ∀ (n : Nat) (σ : St) (x1 : Int32) (x2 : Int32) (x3 : Int32) (H : Heap) (locs : List Loc) (ls : Array Slot), f_X12_who_b18 n σ x1 x2 x3 = some (r, σ') → va_P g classes (WM ts a σ) H → va_D A (WM ts a σ) → va_S A s.heap H locs → lv_has ls 4 [(0, .ref (a 0)), (1, .int x1), (2, .int x2), (3, .int x3)] → W p l e (rk 102 2206) s m args below meth c H locs 0 0 Q (F0 m 18 ls []) := by
  have hx := C.1
  have hb := C.2.1
  have hown := C.2.2.2.1
  have hts := C.2.2.2.2.1
  intro n
  induction n with
  | zero =>
    intro σ x1 x2 x3 H locs ls hf
    cases hf
  | succ n ih =>
    intro σ x1 x2 x3 H locs ls hf hP hD hS hl
    rw [f_X12_who_b18] at hf
    refine lv_iload_n hx hb dX12_who_18 rfl (lv_at hl 3 rfl) ?_
    refine lv_aload_n hx hb dX12_who_19 rfl (lv_at hl 0 rfl) ?_
    refine G_X12_namesMany C hP q_1078 dX12_who_20 ?_
    refine lv_icmp_ge (tgt := 53) hx hb dX12_who_23 (by decide) (fun c8 => ?_) (fun c8 => ?_)
    · replace hf := ipos c8 hf
      refine lv_iload_n hx hb dX12_who_53 rfl (lv_at hl 2 rfl) ?_
      exact retI hQ hf dX12_who_54 hP hD hS
    · replace hf := ineg c8 hf
      refine lv_iload_n hx hb dX12_who_26 rfl (lv_at hl 2 rfl) ?_
      refine lv_aload_n hx hb dX12_who_27 rfl (lv_at hl 0 rfl) ?_
      refine lv_iload_n hx hb dX12_who_28 rfl (lv_at hl 1 rfl) ?_
      refine lv_iload_n hx hb dX12_who_29 rfl (lv_at hl 3 rfl) ?_
      obtain ⟨r10, σ11, h9, hf⟩ := bnd2_some hf
      refine vI [.int x2] C hP hD hS (c_X12_misfit h9) mv_X12_misfit q_1457 rv_X12 dX12_who_30 ⟨Nat.le_of_ble_eq_true rfl, Nat.le_of_ble_eq_true rfl⟩ ⟨Nat.zero_le _, Nat.zero_le _⟩ rfl rfl (Nat.le_of_ble_eq_true rfl) hl.1 (fun H locs hP hD hS => ?_)
      refine lv_bipush (v := -2) hx hb dX12_who_33 (by decide) ?_
      refine lv_icmp_ne (tgt := 44) hx hb dX12_who_35 (by decide) (fun c12 => ?_) (fun c12 => ?_)
      · replace hf := ineg c12 hf
        refine lv_iconst (v := 0) hx hb dX12_who_44 (by decide) ?_
        refine lv_ior hx hb dX12_who_45 ?_
        refine lv_topi (fun v13 ev13 => ?_)
        replace hf := bnd_at ev13 hf
        refine lv_istore_n (lv' := [(2, .int v13), (0, .ref (a 0)), (1, .int x1), (3, .int x3)]) hx hb dX12_who_46 rfl hl (by decide) rfl (fun ls hl => ?_)
        obtain ⟨v14, ev14⟩ : ∃ z : Int32, z = x3 + 1 := ⟨_, rfl⟩
        replace hf := bnd_at ev14 hf
        refine lv_iinc (v := v14) (lv' := [(3, .int v14), (2, .int v13), (0, .ref (a 0)), (1, .int x1)]) hx hb dX12_who_47 hl (k := 3) rfl (by rw [ev14]; rfl) (by decide) rfl (fun ls hl => ?_)
        refine lv_goto (tgt := 18) hx hb dX12_who_50 (by decide) ?_
        exact ih _ _ _ _ _ _ _ hf hP hD hS (lv_sub hl [2, 3, 1, 0] rfl)
      · replace hf := ipos c12 hf
        refine lv_iconst (v := 1) hx hb dX12_who_38 (by decide) ?_
        refine lv_iload_n hx hb dX12_who_39 rfl (lv_at hl 3 rfl) ?_
        refine lv_ishl hx hb dX12_who_40 ?_
        refine lv_goto (tgt := 45) hx hb dX12_who_41 (by decide) ?_
        refine lv_ior hx hb dX12_who_45 ?_
        refine lv_topi (fun v15 ev15 => ?_)
        replace hf := bnd_at ev15 hf
        refine lv_istore_n (lv' := [(2, .int v15), (0, .ref (a 0)), (1, .int x1), (3, .int x3)]) hx hb dX12_who_46 rfl hl (by decide) rfl (fun ls hl => ?_)
        obtain ⟨v16, ev16⟩ : ∃ z : Int32, z = x3 + 1 := ⟨_, rfl⟩
        replace hf := bnd_at ev16 hf
        refine lv_iinc (v := v16) (lv' := [(3, .int v16), (2, .int v15), (0, .ref (a 0)), (1, .int x1)]) hx hb dX12_who_47 hl (k := 3) rfl (by rw [ev16]; rfl) (by decide) rfl (fun ls hl => ?_)
        refine lv_goto (tgt := 18) hx hb dX12_who_50 (by decide) ?_
        exact ih _ _ _ _ _ _ _ hf hP hD hS (lv_sub hl [2, 3, 1, 0] rfl)
set_option maxHeartbeats 4000000 in
set_option maxRecDepth 100000 in
theorem c_X12_who {l : Launch} {g : va_G} {ts : ClassId × ClassId × ClassId} {a : Nat → Nat} {σ : St} {p1 : Int32} {r : Int32} {σ' : St} (hf : f_X12_who σ p1 = some (r, σ')) : ConI l g ts (WM ts a) yX12_who cX12_who 4 (some .int) (rk 102 2206) σ [.ref (a 0), .int p1] r σ' := by
  refine ConI_mk .int rfl rfl rfl rfl (by decide) (Nat.le_of_ble_eq_true rfl) ?_
  intro p e s m below meth c A Q ls C hQ hP hD hS hl
  have C : FX p s m _ meth c RX12 cX12_who 4 g ts A := C
  have hx := C.1
  have hb := C.2.1
  have hown := C.2.2.2.1
  have hts := C.2.2.2.2.1
  have hl : lv_has ls 4 [(0, .ref (a 0)), (1, .int p1)] := hl
  rw [f_X12_who] at hf
  refine lv_aload_n hx hb dX12_who_0 rfl (lv_at hl 0 rfl) ?_
  refine lv_iload_n hx hb dX12_who_1 rfl (lv_at hl 1 rfl) ?_
  obtain ⟨r2, σ3, h1, hf⟩ := bnd2_some hf
  refine vI [] C hP hD hS (c_X12_bytesIs h1) mv_X12_bytesIs q_1222 rv_X12 dX12_who_2 ⟨Nat.le_of_ble_eq_true rfl, Nat.le_of_ble_eq_true rfl⟩ ⟨Nat.zero_le _, Nat.zero_le _⟩ rfl rfl (Nat.le_of_ble_eq_true rfl) hl.1 (fun H locs hP hD hS => ?_)
  refine lv_if_ge (tgt := 14) hx hb dX12_who_5 (by decide) (fun c4 => ?_) (fun c4 => ?_)
  · replace hf := ipos c4 hf
    refine lv_iconst (v := 0) hx hb dX12_who_14 (by decide) ?_
    refine lv_istore_n (lv' := [(2, .int (0 : Int32)), (0, .ref (a 0)), (1, .int p1)]) hx hb dX12_who_15 rfl hl (by decide) rfl (fun ls hl => ?_)
    refine lv_iconst (v := 0) hx hb dX12_who_16 (by decide) ?_
    refine lv_istore_n (lv' := [(3, .int (0 : Int32)), (2, .int (0 : Int32)), (0, .ref (a 0)), (1, .int p1)]) hx hb dX12_who_17 rfl hl (by decide) rfl (fun ls hl => ?_)
    exact w_X12_who_b18 C hQ 256 _ _ _ _ _ _ _ hf hP hD hS (lv_sub hl [2, 3, 1, 0] rfl)
  · replace hf := ineg c4 hf
    refine lv_aload_n hx hb dX12_who_8 rfl (lv_at hl 0 rfl) ?_
    refine lv_iload_n hx hb dX12_who_9 rfl (lv_at hl 1 rfl) ?_
    obtain ⟨r6, σ7, h5, hf⟩ := bnd2_some hf
    refine vI [] C hP hD hS (c_X12_bytesIs h5) mv_X12_bytesIs q_1222 rv_X12 dX12_who_10 ⟨Nat.le_of_ble_eq_true rfl, Nat.le_of_ble_eq_true rfl⟩ ⟨Nat.zero_le _, Nat.zero_le _⟩ rfl rfl (Nat.le_of_ble_eq_true rfl) hl.1 (fun H locs hP hD hS => ?_)
    exact retI hQ hf dX12_who_13 hP hD hS
theorem dX12_odd_0 : decode cX12_odd 0 = .ok (.aload_n 0, 1) := by decide +kernel
theorem dX12_odd_1 : decode cX12_odd 1 = .ok (.iload_n 1, 1) := by decide +kernel
theorem dX12_odd_2 : decode cX12_odd 2 = .ok (.invokevirtual 266, 3) := by decide +kernel
theorem dX12_odd_5 : decode cX12_odd 5 = .ok (.istore_n 2, 1) := by decide +kernel
theorem dX12_odd_6 : decode cX12_odd 6 = .ok (.iload_n 2, 1) := by decide +kernel
theorem dX12_odd_7 : decode cX12_odd 7 = .ok (.ifCond .ge 5, 3) := by decide +kernel
theorem dX12_odd_10 : decode cX12_odd 10 = .ok (.iload_n 2, 1) := by decide +kernel
theorem dX12_odd_11 : decode cX12_odd 11 = .ok (.ireturn, 1) := by decide +kernel
theorem dX12_odd_12 : decode cX12_odd 12 = .ok (.iconst 0, 1) := by decide +kernel
theorem dX12_odd_13 : decode cX12_odd 13 = .ok (.istore_n 3, 1) := by decide +kernel
theorem dX12_odd_14 : decode cX12_odd 14 = .ok (.iconst 0, 1) := by decide +kernel
theorem dX12_odd_15 : decode cX12_odd 15 = .ok (.istore 4, 2) := by decide +kernel
theorem dX12_odd_17 : decode cX12_odd 17 = .ok (.iload 4, 2) := by decide +kernel
theorem dX12_odd_19 : decode cX12_odd 19 = .ok (.aload_n 0, 1) := by decide +kernel
theorem dX12_odd_20 : decode cX12_odd 20 = .ok (.getfield 24, 3) := by decide +kernel
theorem dX12_odd_23 : decode cX12_odd 23 = .ok (.iload_n 2, 1) := by decide +kernel
theorem dX12_odd_24 : decode cX12_odd 24 = .ok (.iaload, 1) := by decide +kernel
theorem dX12_odd_25 : decode cX12_odd 25 = .ok (.if_icmp .ge 36, 3) := by decide +kernel
theorem dX12_odd_28 : decode cX12_odd 28 = .ok (.iload_n 3, 1) := by decide +kernel
theorem dX12_odd_29 : decode cX12_odd 29 = .ok (.aload_n 0, 1) := by decide +kernel
theorem dX12_odd_30 : decode cX12_odd 30 = .ok (.iload_n 1, 1) := by decide +kernel
theorem dX12_odd_31 : decode cX12_odd 31 = .ok (.iload 4, 2) := by decide +kernel
theorem dX12_odd_33 : decode cX12_odd 33 = .ok (.invokevirtual 108, 3) := by decide +kernel
theorem dX12_odd_36 : decode cX12_odd 36 = .ok (.aload_n 0, 1) := by decide +kernel
theorem dX12_odd_37 : decode cX12_odd 37 = .ok (.iload_n 2, 1) := by decide +kernel
theorem dX12_odd_38 : decode cX12_odd 38 = .ok (.iload 4, 2) := by decide +kernel
theorem dX12_odd_40 : decode cX12_odd 40 = .ok (.invokevirtual 136, 3) := by decide +kernel
theorem dX12_odd_43 : decode cX12_odd 43 = .ok (.i2l, 1) := by decide +kernel
theorem dX12_odd_44 : decode cX12_odd 44 = .ok (.lcmp, 1) := by decide +kernel
theorem dX12_odd_45 : decode cX12_odd 45 = .ok (.ifCond .ne 7, 3) := by decide +kernel
theorem dX12_odd_48 : decode cX12_odd 48 = .ok (.iconst 0, 1) := by decide +kernel
theorem dX12_odd_49 : decode cX12_odd 49 = .ok (.goto 4, 3) := by decide +kernel
theorem dX12_odd_52 : decode cX12_odd 52 = .ok (.iconst 1, 1) := by decide +kernel
theorem dX12_odd_53 : decode cX12_odd 53 = .ok (.iadd, 1) := by decide +kernel
theorem dX12_odd_54 : decode cX12_odd 54 = .ok (.istore_n 3, 1) := by decide +kernel
theorem dX12_odd_55 : decode cX12_odd 55 = .ok (.iinc 4 1, 3) := by decide +kernel
theorem dX12_odd_58 : decode cX12_odd 58 = .ok (.goto (-41), 3) := by decide +kernel
theorem dX12_odd_61 : decode cX12_odd 61 = .ok (.iload_n 3, 1) := by decide +kernel
theorem dX12_odd_62 : decode cX12_odd 62 = .ok (.ireturn, 1) := by decide +kernel
def f_X12_odd_b17 : Nat → St → Int32 → Int32 → Int32 → Int32 → Option (Int32 × St)
  | 0, _, _, _, _, _ => none
  | n + 1, σ, x1, x2, x3, x4 => chk (x2 < 0 ∨ 10 ≤ x2.toNatClampNeg) (if σ.2.2.1 607 0 x2.toNatClampNeg ≤ x4 then (some (x3, σ)) else (bnd2 (f_X12_itemAt σ x1 x4) (fun r8 σ9 => bnd2 (f_X12_at1 σ9 x2 x4) (fun r11 σ12 => if r8 = (r11 : Int32).toInt64 then (bnd (x3 + (0 : Int32)) (fun v16 => bnd (x4 + 1) (fun v17 => f_X12_odd_b17 n σ12 x1 x2 v16 v17))) else (bnd (x3 + (1 : Int32)) (fun v14 => bnd (x4 + 1) (fun v15 => f_X12_odd_b17 n σ12 x1 x2 v14 v15)))))))
def f_X12_odd (σ : St) (p1 : Int32) : Option (Int32 × St) := bnd2 (f_X12_likeliest σ p1) (fun r2 σ3 => if 0 ≤ r2 then (f_X12_odd_b17 256 σ3 p1 r2 (0 : Int32) (0 : Int32)) else (some (r2, σ3)))
set_option maxHeartbeats 4000000 in
set_option maxRecDepth 100000 in
theorem w_X12_odd_b17 {p : Program} {l : Launch} {e : Env} {s : State} {m : MethodId} {args : Array Value} {below : List Frame} {meth : Method} {c : Code} {g : va_G} {ts : ClassId × ClassId × ClassId} {A : Nat → Prop} {Q : State → Prop} {a : Nat → Nat} {r : Int32} {σ' : St} (C : FX p s m args meth c RX12 cX12_odd 5 g ts A) (hQ : RetI p l e (rk 104 2252) s m args below meth c cX12_odd g (WM ts a) A r σ' Q) : ∀ (n : Nat) (σ : St) (x1 : Int32) (x2 : Int32) (x3 : Int32) (x4 : Int32) (H : Heap) (locs : List Loc) (ls : Array Slot), f_X12_odd_b17 n σ x1 x2 x3 x4 = some (r, σ') → va_P g classes (WM ts a σ) H → va_D A (WM ts a σ) → va_S A s.heap H locs → lv_has ls 5 [(0, .ref (a 0)), (1, .int x1), (2, .int x2), (3, .int x3), (4, .int x4)] → W p l e (rk 104 2252) s m args below meth c H locs 0 0 Q (F0 m 17 ls []) := by
  have hx := C.1
  have hb := C.2.1
  have hown := C.2.2.2.1
  have hts := C.2.2.2.2.1
  intro n
  induction n with
  | zero =>
    intro σ x1 x2 x3 x4 H locs ls hf
    cases hf
  | succ n ih =>
    intro σ x1 x2 x3 x4 H locs ls hf hP hD hS hl
    rw [f_X12_odd_b17] at hf
    refine lv_iload hx hb dX12_odd_17 (lv_at hl 4 rfl) ?_
    refine lv_aload_n hx hb dX12_odd_19 rfl (lv_at hl 0 rfl) ?_
    refine G_X12_longs C hP q_1079 dX12_odd_20 ?_
    refine lv_iload_n hx hb dX12_odd_23 rfl (lv_at hl 2 rfl) ?_
    obtain ⟨h5, hf⟩ := chk_some hf
    refine AL_X12_longs C hP h5 dX12_odd_24 ?_
    refine lv_icmp_ge (tgt := 61) hx hb dX12_odd_25 (by decide) (fun c6 => ?_) (fun c6 => ?_)
    · replace hf := ipos c6 hf
      refine lv_iload_n hx hb dX12_odd_61 rfl (lv_at hl 3 rfl) ?_
      exact retI hQ hf dX12_odd_62 hP hD hS
    · replace hf := ineg c6 hf
      refine lv_iload_n hx hb dX12_odd_28 rfl (lv_at hl 3 rfl) ?_
      refine lv_aload_n hx hb dX12_odd_29 rfl (lv_at hl 0 rfl) ?_
      refine lv_iload_n hx hb dX12_odd_30 rfl (lv_at hl 1 rfl) ?_
      refine lv_iload hx hb dX12_odd_31 (lv_at hl 4 rfl) ?_
      obtain ⟨r8, σ9, h7, hf⟩ := bnd2_some hf
      refine vL [.int x3] C hP hD hS (c_X12_itemAt h7) mv_X12_itemAt q_1226 rv_X12 dX12_odd_33 ⟨Nat.le_of_ble_eq_true rfl, Nat.le_of_ble_eq_true rfl⟩ ⟨Nat.zero_le _, Nat.zero_le _⟩ rfl rfl (Nat.le_of_ble_eq_true rfl) hl.1 (fun H locs hP hD hS => ?_)
      refine lv_aload_n hx hb dX12_odd_36 rfl (lv_at hl 0 rfl) ?_
      refine lv_iload_n hx hb dX12_odd_37 rfl (lv_at hl 2 rfl) ?_
      refine lv_iload hx hb dX12_odd_38 (lv_at hl 4 rfl) ?_
      obtain ⟨r11, σ12, h10, hf⟩ := bnd2_some hf
      refine vI [.long r8, .int x3] C hP hD hS (c_X12_at1 h10) mv_X12_at1 q_1266 rv_X12 dX12_odd_40 ⟨Nat.le_of_ble_eq_true rfl, Nat.le_of_ble_eq_true rfl⟩ ⟨Nat.zero_le _, Nat.zero_le _⟩ rfl rfl (Nat.le_of_ble_eq_true rfl) hl.1 (fun H locs hP hD hS => ?_)
      refine lv_i2l (v := (r11 : Int32).toInt64) hx hb dX12_odd_43 rfl ?_
      refine lb_ne (tgt := 52) hx hb dX12_odd_44 dX12_odd_45 (by decide) (fun c13 => ?_) (fun c13 => ?_)
      · replace hf := ineg c13 hf
        refine lv_iconst (v := 1) hx hb dX12_odd_52 (by decide) ?_
        refine lv_iadd hx hb dX12_odd_53 ?_
        refine lv_topi (fun v14 ev14 => ?_)
        replace hf := bnd_at ev14 hf
        refine lv_istore_n (lv' := [(3, .int v14), (0, .ref (a 0)), (1, .int x1), (2, .int x2), (4, .int x4)]) hx hb dX12_odd_54 rfl hl (by decide) rfl (fun ls hl => ?_)
        obtain ⟨v15, ev15⟩ : ∃ z : Int32, z = x4 + 1 := ⟨_, rfl⟩
        replace hf := bnd_at ev15 hf
        refine lv_iinc (v := v15) (lv' := [(4, .int v15), (3, .int v14), (0, .ref (a 0)), (1, .int x1), (2, .int x2)]) hx hb dX12_odd_55 hl (k := 4) rfl (by rw [ev15]; rfl) (by decide) rfl (fun ls hl => ?_)
        refine lv_goto (tgt := 17) hx hb dX12_odd_58 (by decide) ?_
        exact ih _ _ _ _ _ _ _ _ hf hP hD hS (lv_sub hl [2, 3, 4, 1, 0] rfl)
      · replace hf := ipos c13 hf
        refine lv_iconst (v := 0) hx hb dX12_odd_48 (by decide) ?_
        refine lv_goto (tgt := 53) hx hb dX12_odd_49 (by decide) ?_
        refine lv_iadd hx hb dX12_odd_53 ?_
        refine lv_topi (fun v16 ev16 => ?_)
        replace hf := bnd_at ev16 hf
        refine lv_istore_n (lv' := [(3, .int v16), (0, .ref (a 0)), (1, .int x1), (2, .int x2), (4, .int x4)]) hx hb dX12_odd_54 rfl hl (by decide) rfl (fun ls hl => ?_)
        obtain ⟨v17, ev17⟩ : ∃ z : Int32, z = x4 + 1 := ⟨_, rfl⟩
        replace hf := bnd_at ev17 hf
        refine lv_iinc (v := v17) (lv' := [(4, .int v17), (3, .int v16), (0, .ref (a 0)), (1, .int x1), (2, .int x2)]) hx hb dX12_odd_55 hl (k := 4) rfl (by rw [ev17]; rfl) (by decide) rfl (fun ls hl => ?_)
        refine lv_goto (tgt := 17) hx hb dX12_odd_58 (by decide) ?_
        exact ih _ _ _ _ _ _ _ _ hf hP hD hS (lv_sub hl [2, 3, 4, 1, 0] rfl)
set_option maxHeartbeats 4000000 in
set_option maxRecDepth 100000 in
theorem c_X12_odd {l : Launch} {g : va_G} {ts : ClassId × ClassId × ClassId} {a : Nat → Nat} {σ : St} {p1 : Int32} {r : Int32} {σ' : St} (hf : f_X12_odd σ p1 = some (r, σ')) : ConI l g ts (WM ts a) yX12_odd cX12_odd 5 (some .int) (rk 104 2252) σ [.ref (a 0), .int p1] r σ' := by
  refine ConI_mk .int rfl rfl rfl rfl (by decide) (Nat.le_of_ble_eq_true rfl) ?_
  intro p e s m below meth c A Q ls C hQ hP hD hS hl
  have C : FX p s m _ meth c RX12 cX12_odd 5 g ts A := C
  have hx := C.1
  have hb := C.2.1
  have hown := C.2.2.2.1
  have hts := C.2.2.2.2.1
  have hl : lv_has ls 5 [(0, .ref (a 0)), (1, .int p1)] := hl
  rw [f_X12_odd] at hf
  refine lv_aload_n hx hb dX12_odd_0 rfl (lv_at hl 0 rfl) ?_
  refine lv_iload_n hx hb dX12_odd_1 rfl (lv_at hl 1 rfl) ?_
  obtain ⟨r2, σ3, h1, hf⟩ := bnd2_some hf
  refine vI [] C hP hD hS (c_X12_likeliest h1) mv_X12_likeliest q_1465 rv_X12 dX12_odd_2 ⟨Nat.le_of_ble_eq_true rfl, Nat.le_of_ble_eq_true rfl⟩ ⟨Nat.zero_le _, Nat.zero_le _⟩ rfl rfl (Nat.le_of_ble_eq_true rfl) hl.1 (fun H locs hP hD hS => ?_)
  refine lv_istore_n (lv' := [(2, .int r2), (0, .ref (a 0)), (1, .int p1)]) hx hb dX12_odd_5 rfl hl (by decide) rfl (fun ls hl => ?_)
  refine lv_iload_n hx hb dX12_odd_6 rfl (lv_at hl 0 rfl) ?_
  refine lv_if_ge (tgt := 12) hx hb dX12_odd_7 (by decide) (fun c4 => ?_) (fun c4 => ?_)
  · replace hf := ipos c4 hf
    refine lv_iconst (v := 0) hx hb dX12_odd_12 (by decide) ?_
    refine lv_istore_n (lv' := [(3, .int (0 : Int32)), (2, .int r2), (0, .ref (a 0)), (1, .int p1)]) hx hb dX12_odd_13 rfl hl (by decide) rfl (fun ls hl => ?_)
    refine lv_iconst (v := 0) hx hb dX12_odd_14 (by decide) ?_
    refine lv_istore (lv' := [(4, .int (0 : Int32)), (3, .int (0 : Int32)), (2, .int r2), (0, .ref (a 0)), (1, .int p1)]) hx hb dX12_odd_15 hl (by decide) rfl (fun ls hl => ?_)
    exact w_X12_odd_b17 C hQ 256 _ _ _ _ _ _ _ _ hf hP hD hS (lv_sub hl [3, 4, 2, 1, 0] rfl)
  · replace hf := ineg c4 hf
    refine lv_iload_n hx hb dX12_odd_10 rfl (lv_at hl 0 rfl) ?_
    exact retI hQ hf dX12_odd_11 hP hD hS
