theorem mv_X8_hasRun : MV yX8_hasRun cX8_hasRun 3 (some .boolean) 2 := ⟨q_445, q_446, q_70, q_447, by decide +kernel, by decide +kernel, by decide +kernel⟩
theorem mv_X8_letterAt : MV yX8_letterAt cX8_letterAt 2 (some .int) 1 := ⟨q_441, q_442, q_70, q_443, by decide +kernel, by decide +kernel, by decide +kernel⟩
theorem mv_X8_isEmpty : MV yX8_isEmpty cX8_isEmpty 1 (some .boolean) 0 := ⟨q_429, q_430, q_70, q_431, by decide +kernel, by decide +kernel, by decide +kernel⟩
theorem mv_X8_isRow : MV yX8_isRow cX8_isRow 1 (some .boolean) 0 := ⟨q_433, q_434, q_70, q_435, by decide +kernel, by decide +kernel, by decide +kernel⟩
theorem mv_X8_hold : MV yX8_hold cX8_hold 2 none 1 := ⟨q_1017, q_1018, q_70, q_1019, by decide +kernel, by decide +kernel, by decide +kernel⟩
theorem mv_X8_holdRow : MV yX8_holdRow cX8_holdRow 3 none 2 := ⟨q_1025, q_1026, q_70, q_1027, by decide +kernel, by decide +kernel, by decide +kernel⟩
theorem mv_X8_cut : MV yX8_cut cX8_cut 3 (some .long) 1 := ⟨q_1044, q_15, q_70, q_1045, by decide +kernel, by decide +kernel, by decide +kernel⟩
theorem mv_X8_enter : MV yX8_enter cX8_enter 4 none 2 := ⟨q_1039, q_1040, q_70, q_1041, by decide +kernel, by decide +kernel, by decide +kernel⟩
theorem mv_X8_spells : MV yX8_spells cX8_spells 4 (some .boolean) 2 := ⟨q_437, q_438, q_70, q_439, by decide +kernel, by decide +kernel, by decide +kernel⟩
theorem dX8_hasRun_0 : decode cX8_hasRun 0 = .ok (.iload_n 1, 1) := by decide +kernel
theorem dX8_hasRun_1 : decode cX8_hasRun 1 = .ok (.ifCond .lt 17, 3) := by decide +kernel
theorem dX8_hasRun_4 : decode cX8_hasRun 4 = .ok (.iload_n 1, 1) := by decide +kernel
theorem dX8_hasRun_5 : decode cX8_hasRun 5 = .ok (.aload_n 0, 1) := by decide +kernel
theorem dX8_hasRun_6 : decode cX8_hasRun 6 = .ok (.getfield 22, 3) := by decide +kernel
theorem dX8_hasRun_9 : decode cX8_hasRun 9 = .ok (.iload_n 2, 1) := by decide +kernel
theorem dX8_hasRun_10 : decode cX8_hasRun 10 = .ok (.isub, 1) := by decide +kernel
theorem dX8_hasRun_11 : decode cX8_hasRun 11 = .ok (.if_icmp .gt 7, 3) := by decide +kernel
theorem dX8_hasRun_14 : decode cX8_hasRun 14 = .ok (.iconst 1, 1) := by decide +kernel
theorem dX8_hasRun_15 : decode cX8_hasRun 15 = .ok (.goto 4, 3) := by decide +kernel
theorem dX8_hasRun_18 : decode cX8_hasRun 18 = .ok (.iconst 0, 1) := by decide +kernel
theorem dX8_hasRun_19 : decode cX8_hasRun 19 = .ok (.ireturn, 1) := by decide +kernel
def f_X8_hasRun0 (σ : St) (i0 : Nat) (p1 : Int32) (p2 : Int32) : Option (Int32 × St) := if p1 < 0 then (some ((0 : Int32), σ)) else (if (σ.1 403 i0) - p2 < p1 then (some ((0 : Int32), σ)) else (some ((1 : Int32), σ)))
def f_X8_hasRun (σ : St) (i0 : Nat) (p1 : Int32) (p2 : Int32) : Option (Int32 × St) := chkB (f_X8_hasRun0 σ i0 p1 p2)
set_option maxHeartbeats 4000000 in
set_option maxRecDepth 100000 in
theorem c_X8_hasRun {l : Launch} {g : va_G} {ts : ClassId × ClassId × ClassId} {a : Nat → Nat} {σ : St} {i0 : Nat} {p1 : Int32} {p2 : Int32} {r : Int32} {σ' : St} (hi0 : i0 < 6) (hf : f_X8_hasRun σ i0 p1 p2 = some (r, σ')) : ConI l g ts (WC ts a) yX8_hasRun cX8_hasRun 3 (some .boolean) (rk 0 0) σ [.ref (a (36 + 2 * i0)), .int p1, .int p2] r σ' := by
  rw [f_X8_hasRun] at hf
  obtain ⟨hf, hn⟩ := chkB_some hf
  refine ConI_mk .boolean rfl hn rfl rfl (by decide) (Nat.le_of_ble_eq_true rfl) ?_
  intro p e s m below meth c A Q ls C hQ hP hD hS hl
  have C : FX p s m _ meth c RX8 cX8_hasRun 3 g ts A := C
  have hx := C.1
  have hb := C.2.1
  have hown := C.2.2.2.1
  have hts := C.2.2.2.2.1
  have hl : lv_has ls 3 [(0, .ref (a (36 + 2 * i0))), (1, .int p1), (2, .int p2)] := hl
  rw [f_X8_hasRun0] at hf
  refine lv_iload_n hx hb dX8_hasRun_0 rfl (lv_at hl 1 rfl) ?_
  refine lv_if_lt (tgt := 18) hx hb dX8_hasRun_1 (by decide) (fun c1 => ?_) (fun c1 => ?_)
  · replace hf := ipos c1 hf
    refine lv_iconst (v := 0) hx hb dX8_hasRun_18 (by decide) ?_
    exact retI hQ hf dX8_hasRun_19 hP hD hS
  · replace hf := ineg c1 hf
    refine lv_iload_n hx hb dX8_hasRun_4 rfl (lv_at hl 1 rfl) ?_
    refine lv_aload_n hx hb dX8_hasRun_5 rfl (lv_at hl 0 rfl) ?_
    refine G_X8_length hi0 C hP q_369 dX8_hasRun_6 ?_
    refine lv_iload_n hx hb dX8_hasRun_9 rfl (lv_at hl 2 rfl) ?_
    refine lv_isub hx hb dX8_hasRun_10 ?_
    refine lv_icmp_gt (tgt := 18) hx hb dX8_hasRun_11 (by decide) (fun c2 => ?_) (fun c2 => ?_)
    · replace hf := ipos c2 hf
      refine lv_iconst (v := 0) hx hb dX8_hasRun_18 (by decide) ?_
      exact retI hQ hf dX8_hasRun_19 hP hD hS
    · replace hf := ineg c2 hf
      refine lv_iconst (v := 1) hx hb dX8_hasRun_14 (by decide) ?_
      refine lv_goto (tgt := 19) hx hb dX8_hasRun_15 (by decide) ?_
      exact retI hQ hf dX8_hasRun_19 hP hD hS
theorem dX8_letterAt_0 : decode cX8_letterAt 0 = .ok (.aload_n 0, 1) := by decide +kernel
theorem dX8_letterAt_1 : decode cX8_letterAt 1 = .ok (.iload_n 1, 1) := by decide +kernel
theorem dX8_letterAt_2 : decode cX8_letterAt 2 = .ok (.iconst 1, 1) := by decide +kernel
theorem dX8_letterAt_3 : decode cX8_letterAt 3 = .ok (.invokevirtual 35, 3) := by decide +kernel
theorem dX8_letterAt_6 : decode cX8_letterAt 6 = .ok (.ifCond .eq 25, 3) := by decide +kernel
theorem dX8_letterAt_9 : decode cX8_letterAt 9 = .ok (.aload_n 0, 1) := by decide +kernel
theorem dX8_letterAt_10 : decode cX8_letterAt 10 = .ok (.getfield 9, 3) := by decide +kernel
theorem dX8_letterAt_13 : decode cX8_letterAt 13 = .ok (.iload_n 1, 1) := by decide +kernel
theorem dX8_letterAt_14 : decode cX8_letterAt 14 = .ok (.laload, 1) := by decide +kernel
theorem dX8_letterAt_15 : decode cX8_letterAt 15 = .ok (.invokestatic 39, 3) := by decide +kernel
theorem dX8_letterAt_18 : decode cX8_letterAt 18 = .ok (.ifCond .eq 13, 3) := by decide +kernel
theorem dX8_letterAt_21 : decode cX8_letterAt 21 = .ok (.aload_n 0, 1) := by decide +kernel
theorem dX8_letterAt_22 : decode cX8_letterAt 22 = .ok (.getfield 9, 3) := by decide +kernel
theorem dX8_letterAt_25 : decode cX8_letterAt 25 = .ok (.iload_n 1, 1) := by decide +kernel
theorem dX8_letterAt_26 : decode cX8_letterAt 26 = .ok (.laload, 1) := by decide +kernel
theorem dX8_letterAt_27 : decode cX8_letterAt 27 = .ok (.l2i, 1) := by decide +kernel
theorem dX8_letterAt_28 : decode cX8_letterAt 28 = .ok (.goto 4, 3) := by decide +kernel
theorem dX8_letterAt_31 : decode cX8_letterAt 31 = .ok (.iconst (-1), 1) := by decide +kernel
theorem dX8_letterAt_32 : decode cX8_letterAt 32 = .ok (.ireturn, 1) := by decide +kernel
def f_X8_letterAt (σ : St) (i0 : Nat) (p1 : Int32) : Option (Int32 × St) := bnd2 (f_X8_hasRun σ i0 p1 (1 : Int32)) (fun r2 σ3 => if r2 = 0 then (some ((-1 : Int32), σ3)) else (chk (p1 < 0 ∨ 60 ≤ p1.toNatClampNeg) (bnd1 (f_X11_isLetter (σ3.2.2.2.1 400 i0 p1.toNatClampNeg)) (fun r7 => if r7 = 0 then (some ((-1 : Int32), σ3)) else (chk (p1 < 0 ∨ 60 ≤ p1.toNatClampNeg) (some (((σ3.2.2.2.1 400 i0 p1.toNatClampNeg) : Int64).toInt32, σ3)))))))
set_option maxHeartbeats 4000000 in
set_option maxRecDepth 100000 in
theorem c_X8_letterAt {l : Launch} {g : va_G} {ts : ClassId × ClassId × ClassId} {a : Nat → Nat} {σ : St} {i0 : Nat} {p1 : Int32} {r : Int32} {σ' : St} (hi0 : i0 < 6) (hf : f_X8_letterAt σ i0 p1 = some (r, σ')) : ConI l g ts (WC ts a) yX8_letterAt cX8_letterAt 2 (some .int) (rk 1 22) σ [.ref (a (36 + 2 * i0)), .int p1] r σ' := by
  refine ConI_mk .int rfl rfl rfl rfl (by decide) (Nat.le_of_ble_eq_true rfl) ?_
  intro p e s m below meth c A Q ls C hQ hP hD hS hl
  have C : FX p s m _ meth c RX8 cX8_letterAt 2 g ts A := C
  have hx := C.1
  have hb := C.2.1
  have hown := C.2.2.2.1
  have hts := C.2.2.2.2.1
  have hl : lv_has ls 2 [(0, .ref (a (36 + 2 * i0))), (1, .int p1)] := hl
  rw [f_X8_letterAt] at hf
  refine lv_aload_n hx hb dX8_letterAt_0 rfl (lv_at hl 0 rfl) ?_
  refine lv_iload_n hx hb dX8_letterAt_1 rfl (lv_at hl 1 rfl) ?_
  refine lv_iconst (v := 1) hx hb dX8_letterAt_2 (by decide) ?_
  obtain ⟨r2, σ3, h1, hf⟩ := bnd2_some hf
  refine vI [] C hP hD hS (c_X8_hasRun hi0 h1) mv_X8_hasRun q_444 (rv_X8 hi0) dX8_letterAt_3 ⟨Nat.le_of_ble_eq_true rfl, Nat.le_of_ble_eq_true rfl⟩ ⟨Nat.zero_le _, Nat.zero_le _⟩ rfl rfl (Nat.le_of_ble_eq_true rfl) hl.1 (fun H locs hP hD hS => ?_)
  refine lv_if_eq (tgt := 31) hx hb dX8_letterAt_6 (by decide) (fun c4 => ?_) (fun c4 => ?_)
  · replace hf := ipos c4 hf
    refine lv_iconst (v := -1) hx hb dX8_letterAt_31 (by decide) ?_
    exact retI hQ hf dX8_letterAt_32 hP hD hS
  · replace hf := ineg c4 hf
    refine lv_aload_n hx hb dX8_letterAt_9 rfl (lv_at hl 0 rfl) ?_
    refine G_X8_elements hi0 C hP q_361 dX8_letterAt_10 ?_
    refine lv_iload_n hx hb dX8_letterAt_13 rfl (lv_at hl 1 rfl) ?_
    obtain ⟨h5, hf⟩ := chk_some hf
    refine AL_X8_elements hi0 C hP h5 dX8_letterAt_14 ?_
    obtain ⟨r7, h6, hf⟩ := bnd1_some hf
    refine tnI (host := RX11) [] C hP hD hS (c_X11_isLetter h6) ms_X11_isLetter (by decide +kernel) dX8_letterAt_15 ⟨Nat.le_of_ble_eq_true rfl, Nat.le_of_ble_eq_true rfl⟩ ⟨Nat.zero_le _, Nat.zero_le _⟩ rfl rfl (Nat.le_of_ble_eq_true rfl) hl.1 (fun H locs hP hD hS => ?_)
    refine lv_if_eq (tgt := 31) hx hb dX8_letterAt_18 (by decide) (fun c8 => ?_) (fun c8 => ?_)
    · replace hf := ipos c8 hf
      refine lv_iconst (v := -1) hx hb dX8_letterAt_31 (by decide) ?_
      exact retI hQ hf dX8_letterAt_32 hP hD hS
    · replace hf := ineg c8 hf
      refine lv_aload_n hx hb dX8_letterAt_21 rfl (lv_at hl 0 rfl) ?_
      refine G_X8_elements hi0 C hP q_361 dX8_letterAt_22 ?_
      refine lv_iload_n hx hb dX8_letterAt_25 rfl (lv_at hl 1 rfl) ?_
      obtain ⟨h9, hf⟩ := chk_some hf
      refine AL_X8_elements hi0 C hP h9 dX8_letterAt_26 ?_
      refine lv_l2i (v := ((σ3.2.2.2.1 400 i0 p1.toNatClampNeg) : Int64).toInt32) hx hb dX8_letterAt_27 rfl ?_
      refine lv_goto (tgt := 32) hx hb dX8_letterAt_28 (by decide) ?_
      exact retI hQ hf dX8_letterAt_32 hP hD hS
theorem dX8_isEmpty_0 : decode cX8_isEmpty 0 = .ok (.aload_n 0, 1) := by decide +kernel
theorem dX8_isEmpty_1 : decode cX8_isEmpty 1 = .ok (.getfield 15, 3) := by decide +kernel
theorem dX8_isEmpty_4 : decode cX8_isEmpty 4 = .ok (.iconst (-1), 1) := by decide +kernel
theorem dX8_isEmpty_5 : decode cX8_isEmpty 5 = .ok (.if_icmp .ne 7, 3) := by decide +kernel
theorem dX8_isEmpty_8 : decode cX8_isEmpty 8 = .ok (.iconst 1, 1) := by decide +kernel
theorem dX8_isEmpty_9 : decode cX8_isEmpty 9 = .ok (.goto 4, 3) := by decide +kernel
theorem dX8_isEmpty_12 : decode cX8_isEmpty 12 = .ok (.iconst 0, 1) := by decide +kernel
theorem dX8_isEmpty_13 : decode cX8_isEmpty 13 = .ok (.ireturn, 1) := by decide +kernel
def f_X8_isEmpty0 (σ : St) (i0 : Nat) : Option (Int32 × St) := if σ.1 401 i0 = (-1 : Int32) then (some ((1 : Int32), σ)) else (some ((0 : Int32), σ))
def f_X8_isEmpty (σ : St) (i0 : Nat) : Option (Int32 × St) := chkB (f_X8_isEmpty0 σ i0)
set_option maxHeartbeats 4000000 in
set_option maxRecDepth 100000 in
theorem c_X8_isEmpty {l : Launch} {g : va_G} {ts : ClassId × ClassId × ClassId} {a : Nat → Nat} {σ : St} {i0 : Nat} {r : Int32} {σ' : St} (hi0 : i0 < 6) (hf : f_X8_isEmpty σ i0 = some (r, σ')) : ConI l g ts (WC ts a) yX8_isEmpty cX8_isEmpty 1 (some .boolean) (rk 0 0) σ [.ref (a (36 + 2 * i0))] r σ' := by
  rw [f_X8_isEmpty] at hf
  obtain ⟨hf, hn⟩ := chkB_some hf
  refine ConI_mk .boolean rfl hn rfl rfl (by decide) (Nat.le_of_ble_eq_true rfl) ?_
  intro p e s m below meth c A Q ls C hQ hP hD hS hl
  have C : FX p s m _ meth c RX8 cX8_isEmpty 1 g ts A := C
  have hx := C.1
  have hb := C.2.1
  have hown := C.2.2.2.1
  have hts := C.2.2.2.2.1
  have hl : lv_has ls 1 [(0, .ref (a (36 + 2 * i0)))] := hl
  rw [f_X8_isEmpty0] at hf
  refine lv_aload_n hx hb dX8_isEmpty_0 rfl (lv_at hl 0 rfl) ?_
  refine G_X8_body hi0 C hP q_363 dX8_isEmpty_1 ?_
  refine lv_iconst (v := -1) hx hb dX8_isEmpty_4 (by decide) ?_
  refine lv_icmp_ne (tgt := 12) hx hb dX8_isEmpty_5 (by decide) (fun c1 => ?_) (fun c1 => ?_)
  · replace hf := ineg c1 hf
    refine lv_iconst (v := 0) hx hb dX8_isEmpty_12 (by decide) ?_
    exact retI hQ hf dX8_isEmpty_13 hP hD hS
  · replace hf := ipos c1 hf
    refine lv_iconst (v := 1) hx hb dX8_isEmpty_8 (by decide) ?_
    refine lv_goto (tgt := 13) hx hb dX8_isEmpty_9 (by decide) ?_
    exact retI hQ hf dX8_isEmpty_13 hP hD hS
theorem dX8_isRow_0 : decode cX8_isRow 0 = .ok (.aload_n 0, 1) := by decide +kernel
theorem dX8_isRow_1 : decode cX8_isRow 1 = .ok (.getfield 15, 3) := by decide +kernel
theorem dX8_isRow_4 : decode cX8_isRow 4 = .ok (.bipush (-2), 2) := by decide +kernel
theorem dX8_isRow_6 : decode cX8_isRow 6 = .ok (.if_icmp .ne 7, 3) := by decide +kernel
theorem dX8_isRow_9 : decode cX8_isRow 9 = .ok (.iconst 1, 1) := by decide +kernel
theorem dX8_isRow_10 : decode cX8_isRow 10 = .ok (.goto 4, 3) := by decide +kernel
theorem dX8_isRow_13 : decode cX8_isRow 13 = .ok (.iconst 0, 1) := by decide +kernel
theorem dX8_isRow_14 : decode cX8_isRow 14 = .ok (.ireturn, 1) := by decide +kernel
def f_X8_isRow0 (σ : St) (i0 : Nat) : Option (Int32 × St) := if σ.1 401 i0 = (-2 : Int32) then (some ((1 : Int32), σ)) else (some ((0 : Int32), σ))
def f_X8_isRow (σ : St) (i0 : Nat) : Option (Int32 × St) := chkB (f_X8_isRow0 σ i0)
set_option maxHeartbeats 4000000 in
set_option maxRecDepth 100000 in
theorem c_X8_isRow {l : Launch} {g : va_G} {ts : ClassId × ClassId × ClassId} {a : Nat → Nat} {σ : St} {i0 : Nat} {r : Int32} {σ' : St} (hi0 : i0 < 6) (hf : f_X8_isRow σ i0 = some (r, σ')) : ConI l g ts (WC ts a) yX8_isRow cX8_isRow 1 (some .boolean) (rk 0 0) σ [.ref (a (36 + 2 * i0))] r σ' := by
  rw [f_X8_isRow] at hf
  obtain ⟨hf, hn⟩ := chkB_some hf
  refine ConI_mk .boolean rfl hn rfl rfl (by decide) (Nat.le_of_ble_eq_true rfl) ?_
  intro p e s m below meth c A Q ls C hQ hP hD hS hl
  have C : FX p s m _ meth c RX8 cX8_isRow 1 g ts A := C
  have hx := C.1
  have hb := C.2.1
  have hown := C.2.2.2.1
  have hts := C.2.2.2.2.1
  have hl : lv_has ls 1 [(0, .ref (a (36 + 2 * i0)))] := hl
  rw [f_X8_isRow0] at hf
  refine lv_aload_n hx hb dX8_isRow_0 rfl (lv_at hl 0 rfl) ?_
  refine G_X8_body hi0 C hP q_363 dX8_isRow_1 ?_
  refine lv_bipush (v := -2) hx hb dX8_isRow_4 (by decide) ?_
  refine lv_icmp_ne (tgt := 13) hx hb dX8_isRow_6 (by decide) (fun c1 => ?_) (fun c1 => ?_)
  · replace hf := ineg c1 hf
    refine lv_iconst (v := 0) hx hb dX8_isRow_13 (by decide) ?_
    exact retI hQ hf dX8_isRow_14 hP hD hS
  · replace hf := ipos c1 hf
    refine lv_iconst (v := 1) hx hb dX8_isRow_9 (by decide) ?_
    refine lv_goto (tgt := 14) hx hb dX8_isRow_10 (by decide) ?_
    exact retI hQ hf dX8_isRow_14 hP hD hS
theorem dX8_hold_0 : decode cX8_hold 0 = .ok (.aload_n 0, 1) := by decide +kernel
theorem dX8_hold_1 : decode cX8_hold 1 = .ok (.iload_n 1, 1) := by decide +kernel
theorem dX8_hold_2 : decode cX8_hold 2 = .ok (.putfield 15, 3) := by decide +kernel
theorem dX8_hold_5 : decode cX8_hold 5 = .ok (.return_, 1) := by decide +kernel
def f_X8_hold (σ : St) (i0 : Nat) (p1 : Int32) : Option St := some (sI σ 401 i0 p1)
set_option maxHeartbeats 4000000 in
set_option maxRecDepth 100000 in
theorem c_X8_hold {l : Launch} {g : va_G} {ts : ClassId × ClassId × ClassId} {a : Nat → Nat} {σ : St} {i0 : Nat} {p1 : Int32} {σ' : St} (hi0 : i0 < 6) (hf : f_X8_hold σ i0 p1 = some σ') : ConV l g ts (WC ts a) yX8_hold cX8_hold 2 none (rk 0 0) σ [.ref (a (36 + 2 * i0)), .int p1] σ' := by
  refine ConV_mk rfl rfl (by decide) (Nat.le_of_ble_eq_true rfl) ?_
  intro p e s m below meth c A Q ls C hQ hP hD hS hl
  have C : FX p s m _ meth c RX8 cX8_hold 2 g ts A := C
  have hx := C.1
  have hb := C.2.1
  have hown := C.2.2.2.1
  have hts := C.2.2.2.2.1
  have hl : lv_has ls 2 [(0, .ref (a (36 + 2 * i0))), (1, .int p1)] := hl
  rw [f_X8_hold] at hf
  refine lv_aload_n hx hb dX8_hold_0 rfl (lv_at hl 0 rfl) ?_
  refine lv_iload_n hx hb dX8_hold_1 rfl (lv_at hl 1 rfl) ?_
  refine S_X8_body hi0 C hP hD hS q_363 dX8_hold_2 (fun H locs hP hD hS => ?_)
  exact retV hQ hf dX8_hold_5 hP hD hS
theorem dX8_holdRow_0 : decode cX8_holdRow 0 = .ok (.aload_n 0, 1) := by decide +kernel
theorem dX8_holdRow_1 : decode cX8_holdRow 1 = .ok (.bipush (-2), 2) := by decide +kernel
theorem dX8_holdRow_3 : decode cX8_holdRow 3 = .ok (.putfield 15, 3) := by decide +kernel
theorem dX8_holdRow_6 : decode cX8_holdRow 6 = .ok (.aload_n 0, 1) := by decide +kernel
theorem dX8_holdRow_7 : decode cX8_holdRow 7 = .ok (.iload_n 1, 1) := by decide +kernel
theorem dX8_holdRow_8 : decode cX8_holdRow 8 = .ok (.putfield 19, 3) := by decide +kernel
theorem dX8_holdRow_11 : decode cX8_holdRow 11 = .ok (.aload_n 0, 1) := by decide +kernel
theorem dX8_holdRow_12 : decode cX8_holdRow 12 = .ok (.iload_n 2, 1) := by decide +kernel
theorem dX8_holdRow_13 : decode cX8_holdRow 13 = .ok (.putfield 22, 3) := by decide +kernel
theorem dX8_holdRow_16 : decode cX8_holdRow 16 = .ok (.aload_n 0, 1) := by decide +kernel
theorem dX8_holdRow_17 : decode cX8_holdRow 17 = .ok (.getfield 9, 3) := by decide +kernel
theorem dX8_holdRow_20 : decode cX8_holdRow 20 = .ok (.lconst 0, 1) := by decide +kernel
theorem dX8_holdRow_21 : decode cX8_holdRow 21 = .ok (.invokestatic 25, 3) := by decide +kernel
theorem dX8_holdRow_24 : decode cX8_holdRow 24 = .ok (.return_, 1) := by decide +kernel
def f_X8_holdRow (σ : St) (i0 : Nat) (p1 : Int32) (p2 : Int32) : Option St := bnd (sI (sI (sI σ 401 i0 (-2 : Int32)) 402 i0 p1) 403 i0 p2) (fun σ1 => bnd (sL σ1 400 i0 (fillL (σ1.2.2.2.1 400 i0) 60 (0 : Int64))) (fun σ2 => some σ2))
set_option maxHeartbeats 4000000 in
set_option maxRecDepth 100000 in
theorem c_X8_holdRow {l : Launch} {g : va_G} {ts : ClassId × ClassId × ClassId} {a : Nat → Nat} {σ : St} {i0 : Nat} {p1 : Int32} {p2 : Int32} {σ' : St} (hi0 : i0 < 6) (hf : f_X8_holdRow σ i0 p1 p2 = some σ') : ConV l g ts (WC ts a) yX8_holdRow cX8_holdRow 3 none (rk 1 24) σ [.ref (a (36 + 2 * i0)), .int p1, .int p2] σ' := by
  refine ConV_mk rfl rfl (by decide) (Nat.le_of_ble_eq_true rfl) ?_
  intro p e s m below meth c A Q ls C hQ hP hD hS hl
  have C : FX p s m _ meth c RX8 cX8_holdRow 3 g ts A := C
  have hx := C.1
  have hb := C.2.1
  have hown := C.2.2.2.1
  have hts := C.2.2.2.2.1
  have hl : lv_has ls 3 [(0, .ref (a (36 + 2 * i0))), (1, .int p1), (2, .int p2)] := hl
  rw [f_X8_holdRow] at hf
  refine lv_aload_n hx hb dX8_holdRow_0 rfl (lv_at hl 0 rfl) ?_
  refine lv_bipush (v := -2) hx hb dX8_holdRow_1 (by decide) ?_
  refine S_X8_body hi0 C hP hD hS q_363 dX8_holdRow_3 (fun H locs hP hD hS => ?_)
  refine lv_aload_n hx hb dX8_holdRow_6 rfl (lv_at hl 0 rfl) ?_
  refine lv_iload_n hx hb dX8_holdRow_7 rfl (lv_at hl 1 rfl) ?_
  refine S_X8_sort hi0 C hP hD hS q_365 dX8_holdRow_8 (fun H locs hP hD hS => ?_)
  refine lv_aload_n hx hb dX8_holdRow_11 rfl (lv_at hl 0 rfl) ?_
  refine lv_iload_n hx hb dX8_holdRow_12 rfl (lv_at hl 2 rfl) ?_
  refine S_X8_length hi0 C hP hD hS q_369 dX8_holdRow_13 (fun H locs hP hD hS => ?_)
  refine nameS hP hD hf (fun σ1 hP hD hf => ?_)
  refine lv_aload_n hx hb dX8_holdRow_16 rfl (lv_at hl 0 rfl) ?_
  refine G_X8_elements hi0 C hP q_361 dX8_holdRow_17 ?_
  refine lv_lconst (v := 0) hx hb dX8_holdRow_20 (by decide) ?_
  refine tV [] C hP hD hS (c_fillL (arr_X8_elements hi0) (aput_X8_elements hi0) (Nat.le_of_ble_eq_true rfl)) ms_fillL q_1028 dX8_holdRow_21 ⟨Nat.le_of_ble_eq_true rfl, Nat.le_of_ble_eq_true rfl⟩ ⟨Nat.zero_le _, Nat.zero_le _⟩ rfl rfl (Nat.le_of_ble_eq_true rfl) hl.1 (fun H locs hP hD hS => ?_)
  refine nameS hP hD hf (fun σ2 hP hD hf => ?_)
  exact retV hQ hf dX8_holdRow_24 hP hD hS
theorem dX8_cut_0 : decode cX8_cut 0 = .ok (.aload_n 0, 1) := by decide +kernel
theorem dX8_cut_1 : decode cX8_cut 1 = .ok (.getfield 19, 3) := by decide +kernel
theorem dX8_cut_4 : decode cX8_cut 4 = .ok (.tableswitch 48 0 3 #[32, 37, 42, 46], 32) := by decide +kernel
theorem dX8_cut_36 : decode cX8_cut 36 = .ok (.lload_n 1, 1) := by decide +kernel
theorem dX8_cut_37 : decode cX8_cut 37 = .ok (.l2i, 1) := by decide +kernel
theorem dX8_cut_38 : decode cX8_cut 38 = .ok (.i2b, 1) := by decide +kernel
theorem dX8_cut_39 : decode cX8_cut 39 = .ok (.i2l, 1) := by decide +kernel
theorem dX8_cut_40 : decode cX8_cut 40 = .ok (.lreturn, 1) := by decide +kernel
theorem dX8_cut_41 : decode cX8_cut 41 = .ok (.lload_n 1, 1) := by decide +kernel
theorem dX8_cut_42 : decode cX8_cut 42 = .ok (.l2i, 1) := by decide +kernel
theorem dX8_cut_43 : decode cX8_cut 43 = .ok (.i2s, 1) := by decide +kernel
theorem dX8_cut_44 : decode cX8_cut 44 = .ok (.i2l, 1) := by decide +kernel
theorem dX8_cut_45 : decode cX8_cut 45 = .ok (.lreturn, 1) := by decide +kernel
theorem dX8_cut_46 : decode cX8_cut 46 = .ok (.lload_n 1, 1) := by decide +kernel
theorem dX8_cut_47 : decode cX8_cut 47 = .ok (.l2i, 1) := by decide +kernel
theorem dX8_cut_48 : decode cX8_cut 48 = .ok (.i2l, 1) := by decide +kernel
theorem dX8_cut_49 : decode cX8_cut 49 = .ok (.lreturn, 1) := by decide +kernel
theorem dX8_cut_50 : decode cX8_cut 50 = .ok (.lload_n 1, 1) := by decide +kernel
theorem dX8_cut_51 : decode cX8_cut 51 = .ok (.lreturn, 1) := by decide +kernel
theorem dX8_cut_52 : decode cX8_cut 52 = .ok (.lload_n 1, 1) := by decide +kernel
theorem dX8_cut_53 : decode cX8_cut 53 = .ok (.lconst 0, 1) := by decide +kernel
theorem dX8_cut_54 : decode cX8_cut 54 = .ok (.lcmp, 1) := by decide +kernel
theorem dX8_cut_55 : decode cX8_cut 55 = .ok (.ifCond .eq 7, 3) := by decide +kernel
theorem dX8_cut_58 : decode cX8_cut 58 = .ok (.lconst 1, 1) := by decide +kernel
theorem dX8_cut_59 : decode cX8_cut 59 = .ok (.goto 4, 3) := by decide +kernel
theorem dX8_cut_62 : decode cX8_cut 62 = .ok (.lconst 0, 1) := by decide +kernel
theorem dX8_cut_63 : decode cX8_cut 63 = .ok (.lreturn, 1) := by decide +kernel
def f_X8_cut (σ : St) (i0 : Nat) (p1 : Int64) : Option (Int64 × St) := if σ.1 402 i0 = 0 then (some ((((((p1 : Int64).toInt32) : Int32).toInt8.toInt32) : Int32).toInt64, σ)) else (if σ.1 402 i0 = 1 then (some ((((((p1 : Int64).toInt32) : Int32).toInt16.toInt32) : Int32).toInt64, σ)) else (if σ.1 402 i0 = 2 then (some ((((p1 : Int64).toInt32) : Int32).toInt64, σ)) else (if σ.1 402 i0 = 3 then (some (p1, σ)) else (if p1 = (0 : Int64) then (some ((0 : Int64), σ)) else (some ((1 : Int64), σ))))))
set_option maxHeartbeats 4000000 in
set_option maxRecDepth 100000 in
theorem c_X8_cut {l : Launch} {g : va_G} {ts : ClassId × ClassId × ClassId} {a : Nat → Nat} {σ : St} {i0 : Nat} {p1 : Int64} {r : Int64} {σ' : St} (hi0 : i0 < 6) (hf : f_X8_cut σ i0 p1 = some (r, σ')) : ConL l g ts (WC ts a) yX8_cut cX8_cut 3 (some .long) (rk 0 0) σ [.ref (a (36 + 2 * i0)), .long p1] r σ' := by
  refine ConL_mk rfl rfl (by decide) (Nat.le_of_ble_eq_true rfl) ?_
  intro p e s m below meth c A Q ls C hQ hP hD hS hl
  have C : FX p s m _ meth c RX8 cX8_cut 3 g ts A := C
  have hx := C.1
  have hb := C.2.1
  have hown := C.2.2.2.1
  have hts := C.2.2.2.2.1
  have hl : lv_has ls 3 [(0, .ref (a (36 + 2 * i0))), (1, .long p1)] := hl
  rw [f_X8_cut] at hf
  refine lv_aload_n hx hb dX8_cut_0 rfl (lv_at hl 0 rfl) ?_
  refine G_X8_sort hi0 C hP q_365 dX8_cut_1 ?_
  by_cases c1 : σ.1 402 i0 = 0
  · replace hf := ipos c1 hf
    refine lv_tableIn (off := 32) (tgt := 36) hx hb dX8_cut_4 (by rw [c1]; decide) (by rw [c1]; decide) (by rw [c1]; rfl) (by decide) ?_
    refine lv_lload_n hx hb dX8_cut_36 rfl (lv_at hl 1 rfl) ?_
    refine lv_l2i (v := (p1 : Int64).toInt32) hx hb dX8_cut_37 rfl ?_
    refine lv_i2b (v := (((p1 : Int64).toInt32) : Int32).toInt8.toInt32) hx hb dX8_cut_38 rfl ?_
    refine lv_i2l (v := (((((p1 : Int64).toInt32) : Int32).toInt8.toInt32) : Int32).toInt64) hx hb dX8_cut_39 rfl ?_
    exact retL hQ hf dX8_cut_40 hP hD hS
  · replace hf := ineg c1 hf
    by_cases c2 : σ.1 402 i0 = 1
    · replace hf := ipos c2 hf
      refine lv_tableIn (off := 37) (tgt := 41) hx hb dX8_cut_4 (by rw [c2]; decide) (by rw [c2]; decide) (by rw [c2]; rfl) (by decide) ?_
      refine lv_lload_n hx hb dX8_cut_41 rfl (lv_at hl 1 rfl) ?_
      refine lv_l2i (v := (p1 : Int64).toInt32) hx hb dX8_cut_42 rfl ?_
      refine lv_i2s (v := (((p1 : Int64).toInt32) : Int32).toInt16.toInt32) hx hb dX8_cut_43 rfl ?_
      refine lv_i2l (v := (((((p1 : Int64).toInt32) : Int32).toInt16.toInt32) : Int32).toInt64) hx hb dX8_cut_44 rfl ?_
      exact retL hQ hf dX8_cut_45 hP hD hS
    · replace hf := ineg c2 hf
      by_cases c3 : σ.1 402 i0 = 2
      · replace hf := ipos c3 hf
        refine lv_tableIn (off := 42) (tgt := 46) hx hb dX8_cut_4 (by rw [c3]; decide) (by rw [c3]; decide) (by rw [c3]; rfl) (by decide) ?_
        refine lv_lload_n hx hb dX8_cut_46 rfl (lv_at hl 1 rfl) ?_
        refine lv_l2i (v := (p1 : Int64).toInt32) hx hb dX8_cut_47 rfl ?_
        refine lv_i2l (v := (((p1 : Int64).toInt32) : Int32).toInt64) hx hb dX8_cut_48 rfl ?_
        exact retL hQ hf dX8_cut_49 hP hD hS
      · replace hf := ineg c3 hf
        by_cases c4 : σ.1 402 i0 = 3
        · replace hf := ipos c4 hf
          refine lv_tableIn (off := 46) (tgt := 50) hx hb dX8_cut_4 (by rw [c4]; decide) (by rw [c4]; decide) (by rw [c4]; rfl) (by decide) ?_
          refine lv_lload_n hx hb dX8_cut_50 rfl (lv_at hl 1 rfl) ?_
          exact retL hQ hf dX8_cut_51 hP hD hS
        · replace hf := ineg c4 hf
          refine lv_tableOut (tgt := 52) hx hb dX8_cut_4 (by have uc1 := lv_neT c1 (a := 0) (by decide); have uc2 := lv_neT c2 (a := 1) (by decide); have uc3 := lv_neT c3 (a := 2) (by decide); have uc4 := lv_neT c4 (a := 3) (by decide); omega) (by decide) ?_
          refine lv_lload_n hx hb dX8_cut_52 rfl (lv_at hl 1 rfl) ?_
          refine lv_lconst (v := 0) hx hb dX8_cut_53 (by decide) ?_
          refine lb_eq (tgt := 62) hx hb dX8_cut_54 dX8_cut_55 (by decide) (fun c5 => ?_) (fun c5 => ?_)
          · replace hf := ipos c5 hf
            refine lv_lconst (v := 0) hx hb dX8_cut_62 (by decide) ?_
            exact retL hQ hf dX8_cut_63 hP hD hS
          · replace hf := ineg c5 hf
            refine lv_lconst (v := 1) hx hb dX8_cut_58 (by decide) ?_
            refine lv_goto (tgt := 63) hx hb dX8_cut_59 (by decide) ?_
            exact retL hQ hf dX8_cut_63 hP hD hS
theorem dX8_enter_0 : decode cX8_enter 0 = .ok (.aload_n 0, 1) := by decide +kernel
theorem dX8_enter_1 : decode cX8_enter 1 = .ok (.getfield 9, 3) := by decide +kernel
theorem dX8_enter_4 : decode cX8_enter 4 = .ok (.iload_n 1, 1) := by decide +kernel
theorem dX8_enter_5 : decode cX8_enter 5 = .ok (.aload_n 0, 1) := by decide +kernel
theorem dX8_enter_6 : decode cX8_enter 6 = .ok (.lload_n 2, 1) := by decide +kernel
theorem dX8_enter_7 : decode cX8_enter 7 = .ok (.invokevirtual 31, 3) := by decide +kernel
theorem dX8_enter_10 : decode cX8_enter 10 = .ok (.lastore, 1) := by decide +kernel
theorem dX8_enter_11 : decode cX8_enter 11 = .ok (.return_, 1) := by decide +kernel
def f_X8_enter (σ : St) (i0 : Nat) (p1 : Int32) (p2 : Int64) : Option St := bnd2 (f_X8_cut σ i0 p2) (fun r2 σ3 => chk (p1 < 0 ∨ 60 ≤ p1.toNatClampNeg) (bnd (sL σ3 400 i0 (vp_updL (σ3.2.2.2.1 400 i0) p1.toNatClampNeg r2)) (fun σ5 => some σ5)))
set_option maxHeartbeats 4000000 in
set_option maxRecDepth 100000 in
theorem c_X8_enter {l : Launch} {g : va_G} {ts : ClassId × ClassId × ClassId} {a : Nat → Nat} {σ : St} {i0 : Nat} {p1 : Int32} {p2 : Int64} {σ' : St} (hi0 : i0 < 6) (hf : f_X8_enter σ i0 p1 p2 = some σ') : ConV l g ts (WC ts a) yX8_enter cX8_enter 4 none (rk 1 22) σ [.ref (a (36 + 2 * i0)), .int p1, .long p2] σ' := by
  refine ConV_mk rfl rfl (by decide) (Nat.le_of_ble_eq_true rfl) ?_
  intro p e s m below meth c A Q ls C hQ hP hD hS hl
  have C : FX p s m _ meth c RX8 cX8_enter 4 g ts A := C
  have hx := C.1
  have hb := C.2.1
  have hown := C.2.2.2.1
  have hts := C.2.2.2.2.1
  have hl : lv_has ls 4 [(0, .ref (a (36 + 2 * i0))), (1, .int p1), (2, .long p2)] := hl
  rw [f_X8_enter] at hf
  refine lv_aload_n hx hb dX8_enter_0 rfl (lv_at hl 0 rfl) ?_
  refine G_X8_elements hi0 C hP q_361 dX8_enter_1 ?_
  refine lv_iload_n hx hb dX8_enter_4 rfl (lv_at hl 1 rfl) ?_
  refine lv_aload_n hx hb dX8_enter_5 rfl (lv_at hl 0 rfl) ?_
  refine lv_lload_n hx hb dX8_enter_6 rfl (lv_at hl 2 rfl) ?_
  obtain ⟨r2, σ3, h1, hf⟩ := bnd2_some hf
  refine vL [.int p1, .ref (a (36 + 2 * i0 + 1))] C hP hD hS (c_X8_cut hi0 h1) mv_X8_cut q_1042 (rv_X8 hi0) dX8_enter_7 ⟨Nat.le_of_ble_eq_true rfl, Nat.le_of_ble_eq_true rfl⟩ ⟨Nat.zero_le _, Nat.zero_le _⟩ rfl rfl (Nat.le_of_ble_eq_true rfl) hl.1 (fun H locs hP hD hS => ?_)
  obtain ⟨h4, hf⟩ := chk_some hf
  refine AS_X8_elements hi0 C hP hD hS h4 dX8_enter_10 (fun H locs hP hD hS => ?_)
  refine nameS hP hD hf (fun σ5 hP hD hf => ?_)
  exact retV hQ hf dX8_enter_11 hP hD hS
theorem dX8_spells_0 : decode cX8_spells 0 = .ok (.iconst 0, 1) := by decide +kernel
theorem dX8_spells_1 : decode cX8_spells 1 = .ok (.istore_n 3, 1) := by decide +kernel
theorem dX8_spells_2 : decode cX8_spells 2 = .ok (.iload_n 3, 1) := by decide +kernel
theorem dX8_spells_3 : decode cX8_spells 3 = .ok (.iload_n 2, 1) := by decide +kernel
theorem dX8_spells_4 : decode cX8_spells 4 = .ok (.if_icmp .ge 21, 3) := by decide +kernel
theorem dX8_spells_7 : decode cX8_spells 7 = .ok (.aload_n 0, 1) := by decide +kernel
theorem dX8_spells_8 : decode cX8_spells 8 = .ok (.iload_n 1, 1) := by decide +kernel
theorem dX8_spells_9 : decode cX8_spells 9 = .ok (.iload_n 3, 1) := by decide +kernel
theorem dX8_spells_10 : decode cX8_spells 10 = .ok (.iadd, 1) := by decide +kernel
theorem dX8_spells_11 : decode cX8_spells 11 = .ok (.invokevirtual 43, 3) := by decide +kernel
theorem dX8_spells_14 : decode cX8_spells 14 = .ok (.ifCond .ge 5, 3) := by decide +kernel
theorem dX8_spells_17 : decode cX8_spells 17 = .ok (.iconst 0, 1) := by decide +kernel
theorem dX8_spells_18 : decode cX8_spells 18 = .ok (.ireturn, 1) := by decide +kernel
theorem dX8_spells_19 : decode cX8_spells 19 = .ok (.iinc 3 1, 3) := by decide +kernel
theorem dX8_spells_22 : decode cX8_spells 22 = .ok (.goto (-20), 3) := by decide +kernel
theorem dX8_spells_25 : decode cX8_spells 25 = .ok (.iconst 1, 1) := by decide +kernel
theorem dX8_spells_26 : decode cX8_spells 26 = .ok (.ireturn, 1) := by decide +kernel
def f_X8_spells_b2 : Nat → St → Nat → Int32 → Int32 → Int32 → Option (Int32 × St)
  | 0, _, _, _, _, _ => none
  | n + 1, σ, o0, x1, x2, x3 => if x2 ≤ x3 then (some ((1 : Int32), σ)) else (bnd2 (f_X8_letterAt σ o0 (x1 + x3)) (fun r3 σ4 => if 0 ≤ r3 then (bnd (x3 + 1) (fun v6 => f_X8_spells_b2 n σ4 o0 x1 x2 v6)) else (some ((0 : Int32), σ4))))
def f_X8_spells0 (σ : St) (i0 : Nat) (p1 : Int32) (p2 : Int32) : Option (Int32 × St) := f_X8_spells_b2 256 σ i0 p1 p2 (0 : Int32)
def f_X8_spells (σ : St) (i0 : Nat) (p1 : Int32) (p2 : Int32) : Option (Int32 × St) := chkB (f_X8_spells0 σ i0 p1 p2)
set_option maxHeartbeats 4000000 in
set_option maxRecDepth 100000 in
theorem w_X8_spells_b2 {p : Program} {l : Launch} {e : Env} {s : State} {m : MethodId} {args : Array Value} {below : List Frame} {meth : Method} {c : Code} {g : va_G} {ts : ClassId × ClassId × ClassId} {A : Nat → Prop} {Q : State → Prop} {a : Nat → Nat} {r : Int32} {σ' : St} (C : FX p s m args meth c RX8 cX8_spells 4 g ts A) (hQ : RetI p l e (rk 2 43) s m args below meth c cX8_spells g (WC ts a) A r σ' Q) : ∀ (n : Nat) (σ : St) (o0 : Nat) (x1 : Int32) (x2 : Int32) (x3 : Int32) (H : Heap) (locs : List Loc) (ls : Array Slot), f_X8_spells_b2 n σ o0 x1 x2 x3 = some (r, σ') → va_P g classes (WC ts a σ) H → va_D A (WC ts a σ) → va_S A s.heap H locs → o0 < 6 → lv_has ls 4 [(0, .ref (a (36 + 2 * o0))), (1, .int x1), (2, .int x2), (3, .int x3)] → W p l e (rk 2 43) s m args below meth c H locs 0 0 Q (F0 m 2 ls []) := by
  have hx := C.1
  have hb := C.2.1
  have hown := C.2.2.2.1
  have hts := C.2.2.2.2.1
  intro n
  induction n with
  | zero =>
    intro σ o0 x1 x2 x3 H locs ls hf
    cases hf
  | succ n ih =>
    intro σ o0 x1 x2 x3 H locs ls hf hP hD hS ho0 hl
    rw [f_X8_spells_b2] at hf
    refine lv_iload_n hx hb dX8_spells_2 rfl (lv_at hl 3 rfl) ?_
    refine lv_iload_n hx hb dX8_spells_3 rfl (lv_at hl 2 rfl) ?_
    refine lv_icmp_ge (tgt := 25) hx hb dX8_spells_4 (by decide) (fun c1 => ?_) (fun c1 => ?_)
    · replace hf := ipos c1 hf
      refine lv_iconst (v := 1) hx hb dX8_spells_25 (by decide) ?_
      exact retI hQ hf dX8_spells_26 hP hD hS
    · replace hf := ineg c1 hf
      refine lv_aload_n hx hb dX8_spells_7 rfl (lv_at hl 0 rfl) ?_
      refine lv_iload_n hx hb dX8_spells_8 rfl (lv_at hl 1 rfl) ?_
      refine lv_iload_n hx hb dX8_spells_9 rfl (lv_at hl 3 rfl) ?_
      refine lv_iadd hx hb dX8_spells_10 ?_
      obtain ⟨r3, σ4, h2, hf⟩ := bnd2_some hf
      refine vI [] C hP hD hS (c_X8_letterAt ho0 h2) mv_X8_letterAt q_440 (rv_X8 ho0) dX8_spells_11 ⟨Nat.le_of_ble_eq_true rfl, Nat.le_of_ble_eq_true rfl⟩ ⟨Nat.zero_le _, Nat.zero_le _⟩ rfl rfl (Nat.le_of_ble_eq_true rfl) hl.1 (fun H locs hP hD hS => ?_)
      refine lv_if_ge (tgt := 19) hx hb dX8_spells_14 (by decide) (fun c5 => ?_) (fun c5 => ?_)
      · replace hf := ipos c5 hf
        obtain ⟨v6, ev6⟩ : ∃ z : Int32, z = x3 + 1 := ⟨_, rfl⟩
        replace hf := bnd_at ev6 hf
        refine lv_iinc (v := v6) (lv' := [(3, .int v6), (0, .ref (a (36 + 2 * o0))), (1, .int x1), (2, .int x2)]) hx hb dX8_spells_19 hl (k := 3) rfl (by rw [ev6]; rfl) (by decide) rfl (fun ls hl => ?_)
        refine lv_goto (tgt := 2) hx hb dX8_spells_22 (by decide) ?_
        exact ih _ _ _ _ _ _ _ _ hf hP hD hS ho0 (lv_sub hl [1, 2, 3, 0] rfl)
      · replace hf := ineg c5 hf
        refine lv_iconst (v := 0) hx hb dX8_spells_17 (by decide) ?_
        exact retI hQ hf dX8_spells_18 hP hD hS
set_option maxHeartbeats 4000000 in
set_option maxRecDepth 100000 in
theorem c_X8_spells {l : Launch} {g : va_G} {ts : ClassId × ClassId × ClassId} {a : Nat → Nat} {σ : St} {i0 : Nat} {p1 : Int32} {p2 : Int32} {r : Int32} {σ' : St} (hi0 : i0 < 6) (hf : f_X8_spells σ i0 p1 p2 = some (r, σ')) : ConI l g ts (WC ts a) yX8_spells cX8_spells 4 (some .boolean) (rk 2 43) σ [.ref (a (36 + 2 * i0)), .int p1, .int p2] r σ' := by
  rw [f_X8_spells] at hf
  obtain ⟨hf, hn⟩ := chkB_some hf
  refine ConI_mk .boolean rfl hn rfl rfl (by decide) (Nat.le_of_ble_eq_true rfl) ?_
  intro p e s m below meth c A Q ls C hQ hP hD hS hl
  have C : FX p s m _ meth c RX8 cX8_spells 4 g ts A := C
  have hx := C.1
  have hb := C.2.1
  have hown := C.2.2.2.1
  have hts := C.2.2.2.2.1
  have hl : lv_has ls 4 [(0, .ref (a (36 + 2 * i0))), (1, .int p1), (2, .int p2)] := hl
  rw [f_X8_spells0] at hf
  refine lv_iconst (v := 0) hx hb dX8_spells_0 (by decide) ?_
  refine lv_istore_n (lv' := [(3, .int (0 : Int32)), (0, .ref (a (36 + 2 * i0))), (1, .int p1), (2, .int p2)]) hx hb dX8_spells_1 rfl hl (by decide) rfl (fun ls hl => ?_)
  exact w_X8_spells_b2 C hQ 256 _ _ _ _ _ _ _ _ hf hP hD hS hi0 (lv_sub hl [1, 2, 3, 0] rfl)
