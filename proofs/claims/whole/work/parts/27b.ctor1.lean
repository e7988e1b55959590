theorem dX0_init_0 : decode cX0_init 0 = .ok (.aload_n 0, 1) := by decide +kernel
theorem dX0_init_1 : decode cX0_init 1 = .ok (.invokespecial 1, 3) := by decide +kernel
theorem dX0_init_4 : decode cX0_init 4 = .ok (.aload_n 0, 1) := by decide +kernel
theorem dX0_init_5 : decode cX0_init 5 = .ok (.bipush 40, 2) := by decide +kernel
theorem dX0_init_7 : decode cX0_init 7 = .ok (.newarray .int, 2) := by decide +kernel
theorem dX0_init_9 : decode cX0_init 9 = .ok (.putfield 9, 3) := by decide +kernel
theorem dX0_init_12 : decode cX0_init 12 = .ok (.aload_n 0, 1) := by decide +kernel
theorem dX0_init_13 : decode cX0_init 13 = .ok (.bipush 40, 2) := by decide +kernel
theorem dX0_init_15 : decode cX0_init 15 = .ok (.newarray .int, 2) := by decide +kernel
theorem dX0_init_17 : decode cX0_init 17 = .ok (.putfield 13, 3) := by decide +kernel
theorem dX0_init_20 : decode cX0_init 20 = .ok (.aload_n 0, 1) := by decide +kernel
theorem dX0_init_21 : decode cX0_init 21 = .ok (.bipush 40, 2) := by decide +kernel
theorem dX0_init_23 : decode cX0_init 23 = .ok (.newarray .int, 2) := by decide +kernel
theorem dX0_init_25 : decode cX0_init 25 = .ok (.putfield 16, 3) := by decide +kernel
theorem dX0_init_28 : decode cX0_init 28 = .ok (.aload_n 0, 1) := by decide +kernel
theorem dX0_init_29 : decode cX0_init 29 = .ok (.bipush 40, 2) := by decide +kernel
theorem dX0_init_31 : decode cX0_init 31 = .ok (.newarray .int, 2) := by decide +kernel
theorem dX0_init_33 : decode cX0_init 33 = .ok (.putfield 19, 3) := by decide +kernel
theorem dX0_init_36 : decode cX0_init 36 = .ok (.return_, 1) := by decide +kernel
theorem mi_X0_init : MI yX0_init cX0_init 1 0 := ⟨rfl, q_262, q_67, q_263, by decide +kernel, by decide +kernel, by decide +kernel⟩
set_option maxHeartbeats 8000000 in
set_option maxRecDepth 100000 in
theorem c_X0_init {l : Launch} {g : va_G} {ts : ClassId × ClassId × ClassId} {ws : va_W} {h0 : Nat} : ConG l g ts yX0_init cX0_init 1 ({ frames := 1, cells := 4, slots := 160, locals := 20 }) 4 160 (ws ++ [(h0, .inr (0, [.null, .null, .null, .null, .int 0, .int 0, .int 0]))]) [.ref h0] (fun w => ∃ z_q1 z_q2 z_q3 z_q4 : Nat, w = ws ++ [(h0, .inr (0, [.ref z_q1, .ref z_q2, .ref z_q3, .ref z_q4, .int 0, .int 0, .int 0])), (z_q1, .inl (ts.1, 40, .inl (fun _ => 0))), (z_q2, .inl (ts.1, 40, .inl (fun _ => 0))), (z_q3, .inl (ts.1, 40, .inl (fun _ => 0))), (z_q4, .inl (ts.1, 40, .inl (fun _ => 0)))]) := by
  refine ConG_mk rfl rfl (by decide) rfl (Nat.le_of_ble_eq_true rfl) ?_
  intro p e s m below meth c A Q ls C hin hO hQ hP hD hS hl
  have C : FX p s m _ meth c RX0 cX0_init 1 g ts A := C
  have hx := C.1
  have hb := C.2.1
  have hown := C.2.2.2.1
  have hts := C.2.2.2.2.1
  have hA := C.2.2.2.2.2.1
  have hE := C.2.2.2.2.2.2
  have hK := hE.1
  have hl : lv_has ls 1 [(0, .ref h0)] := hl
  refine lv_aload_n hx hb dX0_init_0 rfl (lv_at hl 0 rfl) ?_
  refine W.objInit hx hb hown (hts _ q_264) (hts _ q_85) (hts _ q_86) rfl (by rw [C.2.2.1]; exact hl.1) rfl dX0_init_1 (Nat.le_of_ble_eq_true rfl) (Nat.le_of_ble_eq_true rfl) ?_
  refine W.eq (g2 := F0 m 4 ls []) rfl ?_
  refine lv_aload_n hx hb dX0_init_4 rfl (lv_at hl 0 rfl) ?_
  refine lv_bipush (v := 40) hx hb dX0_init_5 (by decide) ?_
  refine va_newa (D := g) (atype := .int) (a0 := (40, .inl (fun _ => 0))) hx hb (hts _ q_arrI) rfl hK hP hD hS hA (fun _ => rfl) (by decide) rfl (by decide) (Nat.le_of_ble_eq_true rfl) (Nat.le_of_ble_eq_true rfl) dX0_init_7 (fun z_q1 cA H hK2 hP hD hS => ?_)
  have hcA := clsI hE hK2
  subst hcA
  rw [List.append_assoc] at hP hD
  have hP : va_P g classes (ws ++ [(h0, .inr (0, [.null, .null, .null, .null, .int 0, .int 0, .int 0])), (z_q1, .inl (ts.1, 40, .inl (fun _ => 0)))]) H := hP
  have hD : va_D A (ws ++ [(h0, .inr (0, [.null, .null, .null, .null, .int 0, .int 0, .int 0])), (z_q1, .inl (ts.1, 40, .inl (fun _ => 0)))]) := hD
  refine va_putF (D := g) (ci := 0) (v := .ref z_q1) (ty := tyX0 0) (C := RX0) (T := TX0) (N := 7) hx hb hts inU0 tyX0 tyX0_ok nmX0 hown hK hP hD hS (ws.length + 0) (ga rfl) rfl 0 (by decide) (hts _ q_265) (fun _ h => h) rfl hin rfl (by decide +kernel) rfl rfl (Nat.le_of_ble_eq_true rfl) dX0_init_9 (fun H locs hP hD hS => ?_)
  rw [gs] at hP hD
  have hP : va_P g classes (ws ++ [(h0, .inr (0, [.ref z_q1, .null, .null, .null, .int 0, .int 0, .int 0])), (z_q1, .inl (ts.1, 40, .inl (fun _ => 0)))]) H := hP
  have hD : va_D A (ws ++ [(h0, .inr (0, [.ref z_q1, .null, .null, .null, .int 0, .int 0, .int 0])), (z_q1, .inl (ts.1, 40, .inl (fun _ => 0)))]) := hD
  refine lv_aload_n hx hb dX0_init_12 rfl (lv_at hl 0 rfl) ?_
  refine lv_bipush (v := 40) hx hb dX0_init_13 (by decide) ?_
  refine va_newa (D := g) (atype := .int) (a0 := (40, .inl (fun _ => 0))) hx hb (hts _ q_arrI) rfl hK hP hD hS hA (fun _ => rfl) (by decide) rfl (by decide) (Nat.le_of_ble_eq_true rfl) (Nat.le_of_ble_eq_true rfl) dX0_init_15 (fun z_q2 cA H hK2 hP hD hS => ?_)
  have hcA := clsI hE hK2
  subst hcA
  rw [List.append_assoc] at hP hD
  have hP : va_P g classes (ws ++ [(h0, .inr (0, [.ref z_q1, .null, .null, .null, .int 0, .int 0, .int 0])), (z_q1, .inl (ts.1, 40, .inl (fun _ => 0))), (z_q2, .inl (ts.1, 40, .inl (fun _ => 0)))]) H := hP
  have hD : va_D A (ws ++ [(h0, .inr (0, [.ref z_q1, .null, .null, .null, .int 0, .int 0, .int 0])), (z_q1, .inl (ts.1, 40, .inl (fun _ => 0))), (z_q2, .inl (ts.1, 40, .inl (fun _ => 0)))]) := hD
  refine va_putF (D := g) (ci := 0) (v := .ref z_q2) (ty := tyX0 1) (C := RX0) (T := TX0) (N := 7) hx hb hts inU0 tyX0 tyX0_ok nmX0 hown hK hP hD hS (ws.length + 0) (ga rfl) rfl 1 (by decide) (hts _ q_267) (fun _ h => h) rfl hin rfl (by decide +kernel) rfl rfl (Nat.le_of_ble_eq_true rfl) dX0_init_17 (fun H locs hP hD hS => ?_)
  rw [gs] at hP hD
  have hP : va_P g classes (ws ++ [(h0, .inr (0, [.ref z_q1, .ref z_q2, .null, .null, .int 0, .int 0, .int 0])), (z_q1, .inl (ts.1, 40, .inl (fun _ => 0))), (z_q2, .inl (ts.1, 40, .inl (fun _ => 0)))]) H := hP
  have hD : va_D A (ws ++ [(h0, .inr (0, [.ref z_q1, .ref z_q2, .null, .null, .int 0, .int 0, .int 0])), (z_q1, .inl (ts.1, 40, .inl (fun _ => 0))), (z_q2, .inl (ts.1, 40, .inl (fun _ => 0)))]) := hD
  refine lv_aload_n hx hb dX0_init_20 rfl (lv_at hl 0 rfl) ?_
  refine lv_bipush (v := 40) hx hb dX0_init_21 (by decide) ?_
  refine va_newa (D := g) (atype := .int) (a0 := (40, .inl (fun _ => 0))) hx hb (hts _ q_arrI) rfl hK hP hD hS hA (fun _ => rfl) (by decide) rfl (by decide) (Nat.le_of_ble_eq_true rfl) (Nat.le_of_ble_eq_true rfl) dX0_init_23 (fun z_q3 cA H hK2 hP hD hS => ?_)
  have hcA := clsI hE hK2
  subst hcA
  rw [List.append_assoc] at hP hD
  have hP : va_P g classes (ws ++ [(h0, .inr (0, [.ref z_q1, .ref z_q2, .null, .null, .int 0, .int 0, .int 0])), (z_q1, .inl (ts.1, 40, .inl (fun _ => 0))), (z_q2, .inl (ts.1, 40, .inl (fun _ => 0))), (z_q3, .inl (ts.1, 40, .inl (fun _ => 0)))]) H := hP
  have hD : va_D A (ws ++ [(h0, .inr (0, [.ref z_q1, .ref z_q2, .null, .null, .int 0, .int 0, .int 0])), (z_q1, .inl (ts.1, 40, .inl (fun _ => 0))), (z_q2, .inl (ts.1, 40, .inl (fun _ => 0))), (z_q3, .inl (ts.1, 40, .inl (fun _ => 0)))]) := hD
  refine va_putF (D := g) (ci := 0) (v := .ref z_q3) (ty := tyX0 2) (C := RX0) (T := TX0) (N := 7) hx hb hts inU0 tyX0 tyX0_ok nmX0 hown hK hP hD hS (ws.length + 0) (ga rfl) rfl 2 (by decide) (hts _ q_269) (fun _ h => h) rfl hin rfl (by decide +kernel) rfl rfl (Nat.le_of_ble_eq_true rfl) dX0_init_25 (fun H locs hP hD hS => ?_)
  rw [gs] at hP hD
  have hP : va_P g classes (ws ++ [(h0, .inr (0, [.ref z_q1, .ref z_q2, .ref z_q3, .null, .int 0, .int 0, .int 0])), (z_q1, .inl (ts.1, 40, .inl (fun _ => 0))), (z_q2, .inl (ts.1, 40, .inl (fun _ => 0))), (z_q3, .inl (ts.1, 40, .inl (fun _ => 0)))]) H := hP
  have hD : va_D A (ws ++ [(h0, .inr (0, [.ref z_q1, .ref z_q2, .ref z_q3, .null, .int 0, .int 0, .int 0])), (z_q1, .inl (ts.1, 40, .inl (fun _ => 0))), (z_q2, .inl (ts.1, 40, .inl (fun _ => 0))), (z_q3, .inl (ts.1, 40, .inl (fun _ => 0)))]) := hD
  refine lv_aload_n hx hb dX0_init_28 rfl (lv_at hl 0 rfl) ?_
  refine lv_bipush (v := 40) hx hb dX0_init_29 (by decide) ?_
  refine va_newa (D := g) (atype := .int) (a0 := (40, .inl (fun _ => 0))) hx hb (hts _ q_arrI) rfl hK hP hD hS hA (fun _ => rfl) (by decide) rfl (by decide) (Nat.le_of_ble_eq_true rfl) (Nat.le_of_ble_eq_true rfl) dX0_init_31 (fun z_q4 cA H hK2 hP hD hS => ?_)
  have hcA := clsI hE hK2
  subst hcA
  rw [List.append_assoc] at hP hD
  have hP : va_P g classes (ws ++ [(h0, .inr (0, [.ref z_q1, .ref z_q2, .ref z_q3, .null, .int 0, .int 0, .int 0])), (z_q1, .inl (ts.1, 40, .inl (fun _ => 0))), (z_q2, .inl (ts.1, 40, .inl (fun _ => 0))), (z_q3, .inl (ts.1, 40, .inl (fun _ => 0))), (z_q4, .inl (ts.1, 40, .inl (fun _ => 0)))]) H := hP
  have hD : va_D A (ws ++ [(h0, .inr (0, [.ref z_q1, .ref z_q2, .ref z_q3, .null, .int 0, .int 0, .int 0])), (z_q1, .inl (ts.1, 40, .inl (fun _ => 0))), (z_q2, .inl (ts.1, 40, .inl (fun _ => 0))), (z_q3, .inl (ts.1, 40, .inl (fun _ => 0))), (z_q4, .inl (ts.1, 40, .inl (fun _ => 0)))]) := hD
  refine va_putF (D := g) (ci := 0) (v := .ref z_q4) (ty := tyX0 3) (C := RX0) (T := TX0) (N := 7) hx hb hts inU0 tyX0 tyX0_ok nmX0 hown hK hP hD hS (ws.length + 0) (ga rfl) rfl 3 (by decide) (hts _ q_271) (fun _ h => h) rfl hin rfl (by decide +kernel) rfl rfl (Nat.le_of_ble_eq_true rfl) dX0_init_33 (fun H locs hP hD hS => ?_)
  rw [gs] at hP hD
  have hP : va_P g classes (ws ++ [(h0, .inr (0, [.ref z_q1, .ref z_q2, .ref z_q3, .ref z_q4, .int 0, .int 0, .int 0])), (z_q1, .inl (ts.1, 40, .inl (fun _ => 0))), (z_q2, .inl (ts.1, 40, .inl (fun _ => 0))), (z_q3, .inl (ts.1, 40, .inl (fun _ => 0))), (z_q4, .inl (ts.1, 40, .inl (fun _ => 0)))]) H := hP
  have hD : va_D A (ws ++ [(h0, .inr (0, [.ref z_q1, .ref z_q2, .ref z_q3, .ref z_q4, .int 0, .int 0, .int 0])), (z_q1, .inl (ts.1, 40, .inl (fun _ => 0))), (z_q2, .inl (ts.1, 40, .inl (fun _ => 0))), (z_q3, .inl (ts.1, 40, .inl (fun _ => 0))), (z_q4, .inl (ts.1, 40, .inl (fun _ => 0)))]) := hD
  refine W.widen (k := 4) (n := 160) (Nat.le_of_ble_eq_true rfl) (Nat.le_of_ble_eq_true rfl) ?_
  exact hQ _ _ _ _ _ ⟨z_q1, z_q2, z_q3, z_q4, rfl⟩ dX0_init_36 hP hD hS
theorem dX1_init_0 : decode cX1_init 0 = .ok (.aload_n 0, 1) := by decide +kernel
theorem dX1_init_1 : decode cX1_init 1 = .ok (.invokespecial 3, 3) := by decide +kernel
theorem dX1_init_4 : decode cX1_init 4 = .ok (.aload_n 0, 1) := by decide +kernel
theorem dX1_init_5 : decode cX1_init 5 = .ok (.bipush 6, 2) := by decide +kernel
theorem dX1_init_7 : decode cX1_init 7 = .ok (.newarray .int, 2) := by decide +kernel
theorem dX1_init_9 : decode cX1_init 9 = .ok (.putfield 9, 3) := by decide +kernel
theorem dX1_init_12 : decode cX1_init 12 = .ok (.aload_n 0, 1) := by decide +kernel
theorem dX1_init_13 : decode cX1_init 13 = .ok (.bipush 6, 2) := by decide +kernel
theorem dX1_init_15 : decode cX1_init 15 = .ok (.newarray .int, 2) := by decide +kernel
theorem dX1_init_17 : decode cX1_init 17 = .ok (.putfield 15, 3) := by decide +kernel
theorem dX1_init_20 : decode cX1_init 20 = .ok (.aload_n 0, 1) := by decide +kernel
theorem dX1_init_21 : decode cX1_init 21 = .ok (.iconst (-1), 1) := by decide +kernel
theorem dX1_init_22 : decode cX1_init 22 = .ok (.putfield 18, 3) := by decide +kernel
theorem dX1_init_25 : decode cX1_init 25 = .ok (.return_, 1) := by decide +kernel
theorem mi_X1_init : MI yX1_init cX1_init 1 0 := ⟨rfl, q_296, q_68, q_297, by decide +kernel, by decide +kernel, by decide +kernel⟩
set_option maxHeartbeats 8000000 in
set_option maxRecDepth 100000 in
theorem c_X1_init {l : Launch} {g : va_G} {ts : ClassId × ClassId × ClassId} {ws : va_W} {h0 : Nat} : ConG l g ts yX1_init cX1_init 1 ({ frames := 1, cells := 2, slots := 12, locals := 20 }) 2 12 (ws ++ [(h0, .inr (1, [.null, .null, .int 0, .int 0, .int 0, .int 0, .int 0, .int 0]))]) [.ref h0] (fun w => ∃ z_q1 z_q2 : Nat, w = ws ++ [(h0, .inr (1, [.ref z_q1, .ref z_q2, .int (-1), .int 0, .int 0, .int 0, .int 0, .int 0])), (z_q1, .inl (ts.1, 6, .inl (fun _ => 0))), (z_q2, .inl (ts.1, 6, .inl (fun _ => 0)))]) := by
  refine ConG_mk rfl rfl (by decide) rfl (Nat.le_of_ble_eq_true rfl) ?_
  intro p e s m below meth c A Q ls C hin hO hQ hP hD hS hl
  have C : FX p s m _ meth c RX1 cX1_init 1 g ts A := C
  have hx := C.1
  have hb := C.2.1
  have hown := C.2.2.2.1
  have hts := C.2.2.2.2.1
  have hA := C.2.2.2.2.2.1
  have hE := C.2.2.2.2.2.2
  have hK := hE.1
  have hl : lv_has ls 1 [(0, .ref h0)] := hl
  refine lv_aload_n hx hb dX1_init_0 rfl (lv_at hl 0 rfl) ?_
  refine W.objInit hx hb hown (hts _ q_298) (hts _ q_85) (hts _ q_86) rfl (by rw [C.2.2.1]; exact hl.1) rfl dX1_init_1 (Nat.le_of_ble_eq_true rfl) (Nat.le_of_ble_eq_true rfl) ?_
  refine W.eq (g2 := F0 m 4 ls []) rfl ?_
  refine lv_aload_n hx hb dX1_init_4 rfl (lv_at hl 0 rfl) ?_
  refine lv_bipush (v := 6) hx hb dX1_init_5 (by decide) ?_
  refine va_newa (D := g) (atype := .int) (a0 := (6, .inl (fun _ => 0))) hx hb (hts _ q_arrI) rfl hK hP hD hS hA (fun _ => rfl) (by decide) rfl (by decide) (Nat.le_of_ble_eq_true rfl) (Nat.le_of_ble_eq_true rfl) dX1_init_7 (fun z_q1 cA H hK2 hP hD hS => ?_)
  have hcA := clsI hE hK2
  subst hcA
  rw [List.append_assoc] at hP hD
  have hP : va_P g classes (ws ++ [(h0, .inr (1, [.null, .null, .int 0, .int 0, .int 0, .int 0, .int 0, .int 0])), (z_q1, .inl (ts.1, 6, .inl (fun _ => 0)))]) H := hP
  have hD : va_D A (ws ++ [(h0, .inr (1, [.null, .null, .int 0, .int 0, .int 0, .int 0, .int 0, .int 0])), (z_q1, .inl (ts.1, 6, .inl (fun _ => 0)))]) := hD
  refine va_putF (D := g) (ci := 1) (v := .ref z_q1) (ty := tyX1 0) (C := RX1) (T := TX1) (N := 8) hx hb hts inU1 tyX1 tyX1_ok nmX1 hown hK hP hD hS (ws.length + 0) (ga rfl) rfl 0 (by decide) (hts _ q_299) (fun _ h => h) rfl hin rfl (by decide +kernel) rfl rfl (Nat.le_of_ble_eq_true rfl) dX1_init_9 (fun H locs hP hD hS => ?_)
  rw [gs] at hP hD
  have hP : va_P g classes (ws ++ [(h0, .inr (1, [.ref z_q1, .null, .int 0, .int 0, .int 0, .int 0, .int 0, .int 0])), (z_q1, .inl (ts.1, 6, .inl (fun _ => 0)))]) H := hP
  have hD : va_D A (ws ++ [(h0, .inr (1, [.ref z_q1, .null, .int 0, .int 0, .int 0, .int 0, .int 0, .int 0])), (z_q1, .inl (ts.1, 6, .inl (fun _ => 0)))]) := hD
  refine lv_aload_n hx hb dX1_init_12 rfl (lv_at hl 0 rfl) ?_
  refine lv_bipush (v := 6) hx hb dX1_init_13 (by decide) ?_
  refine va_newa (D := g) (atype := .int) (a0 := (6, .inl (fun _ => 0))) hx hb (hts _ q_arrI) rfl hK hP hD hS hA (fun _ => rfl) (by decide) rfl (by decide) (Nat.le_of_ble_eq_true rfl) (Nat.le_of_ble_eq_true rfl) dX1_init_15 (fun z_q2 cA H hK2 hP hD hS => ?_)
  have hcA := clsI hE hK2
  subst hcA
  rw [List.append_assoc] at hP hD
  have hP : va_P g classes (ws ++ [(h0, .inr (1, [.ref z_q1, .null, .int 0, .int 0, .int 0, .int 0, .int 0, .int 0])), (z_q1, .inl (ts.1, 6, .inl (fun _ => 0))), (z_q2, .inl (ts.1, 6, .inl (fun _ => 0)))]) H := hP
  have hD : va_D A (ws ++ [(h0, .inr (1, [.ref z_q1, .null, .int 0, .int 0, .int 0, .int 0, .int 0, .int 0])), (z_q1, .inl (ts.1, 6, .inl (fun _ => 0))), (z_q2, .inl (ts.1, 6, .inl (fun _ => 0)))]) := hD
  refine va_putF (D := g) (ci := 1) (v := .ref z_q2) (ty := tyX1 1) (C := RX1) (T := TX1) (N := 8) hx hb hts inU1 tyX1 tyX1_ok nmX1 hown hK hP hD hS (ws.length + 0) (ga rfl) rfl 1 (by decide) (hts _ q_301) (fun _ h => h) rfl hin rfl (by decide +kernel) rfl rfl (Nat.le_of_ble_eq_true rfl) dX1_init_17 (fun H locs hP hD hS => ?_)
  rw [gs] at hP hD
  have hP : va_P g classes (ws ++ [(h0, .inr (1, [.ref z_q1, .ref z_q2, .int 0, .int 0, .int 0, .int 0, .int 0, .int 0])), (z_q1, .inl (ts.1, 6, .inl (fun _ => 0))), (z_q2, .inl (ts.1, 6, .inl (fun _ => 0)))]) H := hP
  have hD : va_D A (ws ++ [(h0, .inr (1, [.ref z_q1, .ref z_q2, .int 0, .int 0, .int 0, .int 0, .int 0, .int 0])), (z_q1, .inl (ts.1, 6, .inl (fun _ => 0))), (z_q2, .inl (ts.1, 6, .inl (fun _ => 0)))]) := hD
  refine lv_aload_n hx hb dX1_init_20 rfl (lv_at hl 0 rfl) ?_
  refine lv_iconst (v := -1) hx hb dX1_init_21 (by decide) ?_
  refine va_put (D := g) (ci := 1) (v := .int (-1)) (ty := .int) (C := RX1) (T := TX1) (N := 8) hx hb hts inU1 tyX1 tyX1_ok nmX1 hown hK hP hD hS (ws.length + 0) (ga rfl) rfl 2 (by decide) (hts _ q_303) (fun _ h => h) rfl (by decide +kernel) rfl rfl (Nat.le_of_ble_eq_true rfl) dX1_init_22 (fun H locs hP hD hS => ?_)
  rw [gs] at hP hD
  have hP : va_P g classes (ws ++ [(h0, .inr (1, [.ref z_q1, .ref z_q2, .int (-1), .int 0, .int 0, .int 0, .int 0, .int 0])), (z_q1, .inl (ts.1, 6, .inl (fun _ => 0))), (z_q2, .inl (ts.1, 6, .inl (fun _ => 0)))]) H := hP
  have hD : va_D A (ws ++ [(h0, .inr (1, [.ref z_q1, .ref z_q2, .int (-1), .int 0, .int 0, .int 0, .int 0, .int 0])), (z_q1, .inl (ts.1, 6, .inl (fun _ => 0))), (z_q2, .inl (ts.1, 6, .inl (fun _ => 0)))]) := hD
  refine W.widen (k := 2) (n := 12) (Nat.le_of_ble_eq_true rfl) (Nat.le_of_ble_eq_true rfl) ?_
  exact hQ _ _ _ _ _ ⟨z_q1, z_q2, rfl⟩ dX1_init_25 hP hD hS
theorem dX4_init_0 : decode cX4_init 0 = .ok (.aload_n 0, 1) := by decide +kernel
theorem dX4_init_1 : decode cX4_init 1 = .ok (.invokespecial 1, 3) := by decide +kernel
theorem dX4_init_4 : decode cX4_init 4 = .ok (.aload_n 0, 1) := by decide +kernel
theorem dX4_init_5 : decode cX4_init 5 = .ok (.sipush 128, 3) := by decide +kernel
theorem dX4_init_8 : decode cX4_init 8 = .ok (.newarray .int, 2) := by decide +kernel
theorem dX4_init_10 : decode cX4_init 10 = .ok (.putfield 9, 3) := by decide +kernel
theorem dX4_init_13 : decode cX4_init 13 = .ok (.aload_n 0, 1) := by decide +kernel
theorem dX4_init_14 : decode cX4_init 14 = .ok (.sipush 129, 3) := by decide +kernel
theorem dX4_init_17 : decode cX4_init 17 = .ok (.newarray .int, 2) := by decide +kernel
theorem dX4_init_19 : decode cX4_init 19 = .ok (.putfield 13, 3) := by decide +kernel
theorem dX4_init_22 : decode cX4_init 22 = .ok (.aload_n 0, 1) := by decide +kernel
theorem dX4_init_23 : decode cX4_init 23 = .ok (.bipush 6, 2) := by decide +kernel
theorem dX4_init_25 : decode cX4_init 25 = .ok (.newarray .int, 2) := by decide +kernel
theorem dX4_init_27 : decode cX4_init 27 = .ok (.putfield 16, 3) := by decide +kernel
theorem dX4_init_30 : decode cX4_init 30 = .ok (.return_, 1) := by decide +kernel
theorem mi_X4_init : MI yX4_init cX4_init 1 0 := ⟨rfl, q_96, q_60, q_97, by decide +kernel, by decide +kernel, by decide +kernel⟩
set_option maxHeartbeats 8000000 in
set_option maxRecDepth 100000 in
theorem c_X4_init {l : Launch} {g : va_G} {ts : ClassId × ClassId × ClassId} {ws : va_W} {h0 : Nat} : ConG l g ts yX4_init cX4_init 1 ({ frames := 1, cells := 3, slots := 263, locals := 20 }) 3 263 (ws ++ [(h0, .inr (4, [.null, .null, .null, .int 0]))]) [.ref h0] (fun w => ∃ z_q1 z_q2 z_q3 : Nat, w = ws ++ [(h0, .inr (4, [.ref z_q1, .ref z_q2, .ref z_q3, .int 0])), (z_q1, .inl (ts.1, 128, .inl (fun _ => 0))), (z_q2, .inl (ts.1, 129, .inl (fun _ => 0))), (z_q3, .inl (ts.1, 6, .inl (fun _ => 0)))]) := by
  refine ConG_mk rfl rfl (by decide) rfl (Nat.le_of_ble_eq_true rfl) ?_
  intro p e s m below meth c A Q ls C hin hO hQ hP hD hS hl
  have C : FX p s m _ meth c RX4 cX4_init 1 g ts A := C
  have hx := C.1
  have hb := C.2.1
  have hown := C.2.2.2.1
  have hts := C.2.2.2.2.1
  have hA := C.2.2.2.2.2.1
  have hE := C.2.2.2.2.2.2
  have hK := hE.1
  have hl : lv_has ls 1 [(0, .ref h0)] := hl
  refine lv_aload_n hx hb dX4_init_0 rfl (lv_at hl 0 rfl) ?_
  refine W.objInit hx hb hown (hts _ q_98) (hts _ q_85) (hts _ q_86) rfl (by rw [C.2.2.1]; exact hl.1) rfl dX4_init_1 (Nat.le_of_ble_eq_true rfl) (Nat.le_of_ble_eq_true rfl) ?_
  refine W.eq (g2 := F0 m 4 ls []) rfl ?_
  refine lv_aload_n hx hb dX4_init_4 rfl (lv_at hl 0 rfl) ?_
  refine lv_sipush (v := 128) hx hb dX4_init_5 (by decide) ?_
  refine va_newa (D := g) (atype := .int) (a0 := (128, .inl (fun _ => 0))) hx hb (hts _ q_arrI) rfl hK hP hD hS hA (fun _ => rfl) (by decide) rfl (by decide) (Nat.le_of_ble_eq_true rfl) (Nat.le_of_ble_eq_true rfl) dX4_init_8 (fun z_q1 cA H hK2 hP hD hS => ?_)
  have hcA := clsI hE hK2
  subst hcA
  rw [List.append_assoc] at hP hD
  have hP : va_P g classes (ws ++ [(h0, .inr (4, [.null, .null, .null, .int 0])), (z_q1, .inl (ts.1, 128, .inl (fun _ => 0)))]) H := hP
  have hD : va_D A (ws ++ [(h0, .inr (4, [.null, .null, .null, .int 0])), (z_q1, .inl (ts.1, 128, .inl (fun _ => 0)))]) := hD
  refine va_putF (D := g) (ci := 4) (v := .ref z_q1) (ty := tyX4 0) (C := RX4) (T := TX4) (N := 4) hx hb hts inU4 tyX4 tyX4_ok nmX4 hown hK hP hD hS (ws.length + 0) (ga rfl) rfl 0 (by decide) (hts _ q_99) (fun _ h => h) rfl hin rfl (by decide +kernel) rfl rfl (Nat.le_of_ble_eq_true rfl) dX4_init_10 (fun H locs hP hD hS => ?_)
  rw [gs] at hP hD
  have hP : va_P g classes (ws ++ [(h0, .inr (4, [.ref z_q1, .null, .null, .int 0])), (z_q1, .inl (ts.1, 128, .inl (fun _ => 0)))]) H := hP
  have hD : va_D A (ws ++ [(h0, .inr (4, [.ref z_q1, .null, .null, .int 0])), (z_q1, .inl (ts.1, 128, .inl (fun _ => 0)))]) := hD
  refine lv_aload_n hx hb dX4_init_13 rfl (lv_at hl 0 rfl) ?_
  refine lv_sipush (v := 129) hx hb dX4_init_14 (by decide) ?_
  refine va_newa (D := g) (atype := .int) (a0 := (129, .inl (fun _ => 0))) hx hb (hts _ q_arrI) rfl hK hP hD hS hA (fun _ => rfl) (by decide) rfl (by decide) (Nat.le_of_ble_eq_true rfl) (Nat.le_of_ble_eq_true rfl) dX4_init_17 (fun z_q2 cA H hK2 hP hD hS => ?_)
  have hcA := clsI hE hK2
  subst hcA
  rw [List.append_assoc] at hP hD
  have hP : va_P g classes (ws ++ [(h0, .inr (4, [.ref z_q1, .null, .null, .int 0])), (z_q1, .inl (ts.1, 128, .inl (fun _ => 0))), (z_q2, .inl (ts.1, 129, .inl (fun _ => 0)))]) H := hP
  have hD : va_D A (ws ++ [(h0, .inr (4, [.ref z_q1, .null, .null, .int 0])), (z_q1, .inl (ts.1, 128, .inl (fun _ => 0))), (z_q2, .inl (ts.1, 129, .inl (fun _ => 0)))]) := hD
  refine va_putF (D := g) (ci := 4) (v := .ref z_q2) (ty := tyX4 1) (C := RX4) (T := TX4) (N := 4) hx hb hts inU4 tyX4 tyX4_ok nmX4 hown hK hP hD hS (ws.length + 0) (ga rfl) rfl 1 (by decide) (hts _ q_100) (fun _ h => h) rfl hin rfl (by decide +kernel) rfl rfl (Nat.le_of_ble_eq_true rfl) dX4_init_19 (fun H locs hP hD hS => ?_)
  rw [gs] at hP hD
  have hP : va_P g classes (ws ++ [(h0, .inr (4, [.ref z_q1, .ref z_q2, .null, .int 0])), (z_q1, .inl (ts.1, 128, .inl (fun _ => 0))), (z_q2, .inl (ts.1, 129, .inl (fun _ => 0)))]) H := hP
  have hD : va_D A (ws ++ [(h0, .inr (4, [.ref z_q1, .ref z_q2, .null, .int 0])), (z_q1, .inl (ts.1, 128, .inl (fun _ => 0))), (z_q2, .inl (ts.1, 129, .inl (fun _ => 0)))]) := hD
  refine lv_aload_n hx hb dX4_init_22 rfl (lv_at hl 0 rfl) ?_
  refine lv_bipush (v := 6) hx hb dX4_init_23 (by decide) ?_
  refine va_newa (D := g) (atype := .int) (a0 := (6, .inl (fun _ => 0))) hx hb (hts _ q_arrI) rfl hK hP hD hS hA (fun _ => rfl) (by decide) rfl (by decide) (Nat.le_of_ble_eq_true rfl) (Nat.le_of_ble_eq_true rfl) dX4_init_25 (fun z_q3 cA H hK2 hP hD hS => ?_)
  have hcA := clsI hE hK2
  subst hcA
  rw [List.append_assoc] at hP hD
  have hP : va_P g classes (ws ++ [(h0, .inr (4, [.ref z_q1, .ref z_q2, .null, .int 0])), (z_q1, .inl (ts.1, 128, .inl (fun _ => 0))), (z_q2, .inl (ts.1, 129, .inl (fun _ => 0))), (z_q3, .inl (ts.1, 6, .inl (fun _ => 0)))]) H := hP
  have hD : va_D A (ws ++ [(h0, .inr (4, [.ref z_q1, .ref z_q2, .null, .int 0])), (z_q1, .inl (ts.1, 128, .inl (fun _ => 0))), (z_q2, .inl (ts.1, 129, .inl (fun _ => 0))), (z_q3, .inl (ts.1, 6, .inl (fun _ => 0)))]) := hD
  refine va_putF (D := g) (ci := 4) (v := .ref z_q3) (ty := tyX4 2) (C := RX4) (T := TX4) (N := 4) hx hb hts inU4 tyX4 tyX4_ok nmX4 hown hK hP hD hS (ws.length + 0) (ga rfl) rfl 2 (by decide) (hts _ q_101) (fun _ h => h) rfl hin rfl (by decide +kernel) rfl rfl (Nat.le_of_ble_eq_true rfl) dX4_init_27 (fun H locs hP hD hS => ?_)
  rw [gs] at hP hD
  have hP : va_P g classes (ws ++ [(h0, .inr (4, [.ref z_q1, .ref z_q2, .ref z_q3, .int 0])), (z_q1, .inl (ts.1, 128, .inl (fun _ => 0))), (z_q2, .inl (ts.1, 129, .inl (fun _ => 0))), (z_q3, .inl (ts.1, 6, .inl (fun _ => 0)))]) H := hP
  have hD : va_D A (ws ++ [(h0, .inr (4, [.ref z_q1, .ref z_q2, .ref z_q3, .int 0])), (z_q1, .inl (ts.1, 128, .inl (fun _ => 0))), (z_q2, .inl (ts.1, 129, .inl (fun _ => 0))), (z_q3, .inl (ts.1, 6, .inl (fun _ => 0)))]) := hD
  refine W.widen (k := 3) (n := 263) (Nat.le_of_ble_eq_true rfl) (Nat.le_of_ble_eq_true rfl) ?_
  exact hQ _ _ _ _ _ ⟨z_q1, z_q2, z_q3, rfl⟩ dX4_init_30 hP hD hS
theorem dX6_init_0 : decode cX6_init 0 = .ok (.aload_n 0, 1) := by decide +kernel
theorem dX6_init_1 : decode cX6_init 1 = .ok (.invokespecial 3, 3) := by decide +kernel
theorem dX6_init_4 : decode cX6_init 4 = .ok (.aload_n 0, 1) := by decide +kernel
theorem dX6_init_5 : decode cX6_init 5 = .ok (.bipush 60, 2) := by decide +kernel
theorem dX6_init_7 : decode cX6_init 7 = .ok (.newarray .int, 2) := by decide +kernel
theorem dX6_init_9 : decode cX6_init 9 = .ok (.putfield 9, 3) := by decide +kernel
theorem dX6_init_12 : decode cX6_init 12 = .ok (.aload_n 0, 1) := by decide +kernel
theorem dX6_init_13 : decode cX6_init 13 = .ok (.bipush 10, 2) := by decide +kernel
theorem dX6_init_15 : decode cX6_init 15 = .ok (.newarray .int, 2) := by decide +kernel
theorem dX6_init_17 : decode cX6_init 17 = .ok (.putfield 15, 3) := by decide +kernel
theorem dX6_init_20 : decode cX6_init 20 = .ok (.aload_n 0, 1) := by decide +kernel
theorem dX6_init_21 : decode cX6_init 21 = .ok (.bipush 10, 2) := by decide +kernel
theorem dX6_init_23 : decode cX6_init 23 = .ok (.newarray .int, 2) := by decide +kernel
theorem dX6_init_25 : decode cX6_init 25 = .ok (.putfield 18, 3) := by decide +kernel
theorem dX6_init_28 : decode cX6_init 28 = .ok (.return_, 1) := by decide +kernel
theorem mi_X6_init : MI yX6_init cX6_init 1 0 := ⟨rfl, q_152, q_62, q_153, by decide +kernel, by decide +kernel, by decide +kernel⟩
set_option maxHeartbeats 8000000 in
set_option maxRecDepth 100000 in
theorem c_X6_init {l : Launch} {g : va_G} {ts : ClassId × ClassId × ClassId} {ws : va_W} {h0 : Nat} : ConG l g ts yX6_init cX6_init 1 ({ frames := 1, cells := 3, slots := 80, locals := 20 }) 3 80 (ws ++ [(h0, .inr (6, [.null, .null, .null, .int 0]))]) [.ref h0] (fun w => ∃ z_q1 z_q2 z_q3 : Nat, w = ws ++ [(h0, .inr (6, [.ref z_q1, .ref z_q2, .ref z_q3, .int 0])), (z_q1, .inl (ts.1, 60, .inl (fun _ => 0))), (z_q2, .inl (ts.1, 10, .inl (fun _ => 0))), (z_q3, .inl (ts.1, 10, .inl (fun _ => 0)))]) := by
  refine ConG_mk rfl rfl (by decide) rfl (Nat.le_of_ble_eq_true rfl) ?_
  intro p e s m below meth c A Q ls C hin hO hQ hP hD hS hl
  have C : FX p s m _ meth c RX6 cX6_init 1 g ts A := C
  have hx := C.1
  have hb := C.2.1
  have hown := C.2.2.2.1
  have hts := C.2.2.2.2.1
  have hA := C.2.2.2.2.2.1
  have hE := C.2.2.2.2.2.2
  have hK := hE.1
  have hl : lv_has ls 1 [(0, .ref h0)] := hl
  refine lv_aload_n hx hb dX6_init_0 rfl (lv_at hl 0 rfl) ?_
  refine W.objInit hx hb hown (hts _ q_154) (hts _ q_85) (hts _ q_86) rfl (by rw [C.2.2.1]; exact hl.1) rfl dX6_init_1 (Nat.le_of_ble_eq_true rfl) (Nat.le_of_ble_eq_true rfl) ?_
  refine W.eq (g2 := F0 m 4 ls []) rfl ?_
  refine lv_aload_n hx hb dX6_init_4 rfl (lv_at hl 0 rfl) ?_
  refine lv_bipush (v := 60) hx hb dX6_init_5 (by decide) ?_
  refine va_newa (D := g) (atype := .int) (a0 := (60, .inl (fun _ => 0))) hx hb (hts _ q_arrI) rfl hK hP hD hS hA (fun _ => rfl) (by decide) rfl (by decide) (Nat.le_of_ble_eq_true rfl) (Nat.le_of_ble_eq_true rfl) dX6_init_7 (fun z_q1 cA H hK2 hP hD hS => ?_)
  have hcA := clsI hE hK2
  subst hcA
  rw [List.append_assoc] at hP hD
  have hP : va_P g classes (ws ++ [(h0, .inr (6, [.null, .null, .null, .int 0])), (z_q1, .inl (ts.1, 60, .inl (fun _ => 0)))]) H := hP
  have hD : va_D A (ws ++ [(h0, .inr (6, [.null, .null, .null, .int 0])), (z_q1, .inl (ts.1, 60, .inl (fun _ => 0)))]) := hD
  refine va_putF (D := g) (ci := 6) (v := .ref z_q1) (ty := tyX6 0) (C := RX6) (T := TX6) (N := 4) hx hb hts inU6 tyX6 tyX6_ok nmX6 hown hK hP hD hS (ws.length + 0) (ga rfl) rfl 0 (by decide) (hts _ q_155) (fun _ h => h) rfl hin rfl (by decide +kernel) rfl rfl (Nat.le_of_ble_eq_true rfl) dX6_init_9 (fun H locs hP hD hS => ?_)
  rw [gs] at hP hD
  have hP : va_P g classes (ws ++ [(h0, .inr (6, [.ref z_q1, .null, .null, .int 0])), (z_q1, .inl (ts.1, 60, .inl (fun _ => 0)))]) H := hP
  have hD : va_D A (ws ++ [(h0, .inr (6, [.ref z_q1, .null, .null, .int 0])), (z_q1, .inl (ts.1, 60, .inl (fun _ => 0)))]) := hD
  refine lv_aload_n hx hb dX6_init_12 rfl (lv_at hl 0 rfl) ?_
  refine lv_bipush (v := 10) hx hb dX6_init_13 (by decide) ?_
  refine va_newa (D := g) (atype := .int) (a0 := (10, .inl (fun _ => 0))) hx hb (hts _ q_arrI) rfl hK hP hD hS hA (fun _ => rfl) (by decide) rfl (by decide) (Nat.le_of_ble_eq_true rfl) (Nat.le_of_ble_eq_true rfl) dX6_init_15 (fun z_q2 cA H hK2 hP hD hS => ?_)
  have hcA := clsI hE hK2
  subst hcA
  rw [List.append_assoc] at hP hD
  have hP : va_P g classes (ws ++ [(h0, .inr (6, [.ref z_q1, .null, .null, .int 0])), (z_q1, .inl (ts.1, 60, .inl (fun _ => 0))), (z_q2, .inl (ts.1, 10, .inl (fun _ => 0)))]) H := hP
  have hD : va_D A (ws ++ [(h0, .inr (6, [.ref z_q1, .null, .null, .int 0])), (z_q1, .inl (ts.1, 60, .inl (fun _ => 0))), (z_q2, .inl (ts.1, 10, .inl (fun _ => 0)))]) := hD
  refine va_putF (D := g) (ci := 6) (v := .ref z_q2) (ty := tyX6 1) (C := RX6) (T := TX6) (N := 4) hx hb hts inU6 tyX6 tyX6_ok nmX6 hown hK hP hD hS (ws.length + 0) (ga rfl) rfl 1 (by decide) (hts _ q_156) (fun _ h => h) rfl hin rfl (by decide +kernel) rfl rfl (Nat.le_of_ble_eq_true rfl) dX6_init_17 (fun H locs hP hD hS => ?_)
  rw [gs] at hP hD
  have hP : va_P g classes (ws ++ [(h0, .inr (6, [.ref z_q1, .ref z_q2, .null, .int 0])), (z_q1, .inl (ts.1, 60, .inl (fun _ => 0))), (z_q2, .inl (ts.1, 10, .inl (fun _ => 0)))]) H := hP
  have hD : va_D A (ws ++ [(h0, .inr (6, [.ref z_q1, .ref z_q2, .null, .int 0])), (z_q1, .inl (ts.1, 60, .inl (fun _ => 0))), (z_q2, .inl (ts.1, 10, .inl (fun _ => 0)))]) := hD
  refine lv_aload_n hx hb dX6_init_20 rfl (lv_at hl 0 rfl) ?_
  refine lv_bipush (v := 10) hx hb dX6_init_21 (by decide) ?_
  refine va_newa (D := g) (atype := .int) (a0 := (10, .inl (fun _ => 0))) hx hb (hts _ q_arrI) rfl hK hP hD hS hA (fun _ => rfl) (by decide) rfl (by decide) (Nat.le_of_ble_eq_true rfl) (Nat.le_of_ble_eq_true rfl) dX6_init_23 (fun z_q3 cA H hK2 hP hD hS => ?_)
  have hcA := clsI hE hK2
  subst hcA
  rw [List.append_assoc] at hP hD
  have hP : va_P g classes (ws ++ [(h0, .inr (6, [.ref z_q1, .ref z_q2, .null, .int 0])), (z_q1, .inl (ts.1, 60, .inl (fun _ => 0))), (z_q2, .inl (ts.1, 10, .inl (fun _ => 0))), (z_q3, .inl (ts.1, 10, .inl (fun _ => 0)))]) H := hP
  have hD : va_D A (ws ++ [(h0, .inr (6, [.ref z_q1, .ref z_q2, .null, .int 0])), (z_q1, .inl (ts.1, 60, .inl (fun _ => 0))), (z_q2, .inl (ts.1, 10, .inl (fun _ => 0))), (z_q3, .inl (ts.1, 10, .inl (fun _ => 0)))]) := hD
  refine va_putF (D := g) (ci := 6) (v := .ref z_q3) (ty := tyX6 2) (C := RX6) (T := TX6) (N := 4) hx hb hts inU6 tyX6 tyX6_ok nmX6 hown hK hP hD hS (ws.length + 0) (ga rfl) rfl 2 (by decide) (hts _ q_161) (fun _ h => h) rfl hin rfl (by decide +kernel) rfl rfl (Nat.le_of_ble_eq_true rfl) dX6_init_25 (fun H locs hP hD hS => ?_)
  rw [gs] at hP hD
  have hP : va_P g classes (ws ++ [(h0, .inr (6, [.ref z_q1, .ref z_q2, .ref z_q3, .int 0])), (z_q1, .inl (ts.1, 60, .inl (fun _ => 0))), (z_q2, .inl (ts.1, 10, .inl (fun _ => 0))), (z_q3, .inl (ts.1, 10, .inl (fun _ => 0)))]) H := hP
  have hD : va_D A (ws ++ [(h0, .inr (6, [.ref z_q1, .ref z_q2, .ref z_q3, .int 0])), (z_q1, .inl (ts.1, 60, .inl (fun _ => 0))), (z_q2, .inl (ts.1, 10, .inl (fun _ => 0))), (z_q3, .inl (ts.1, 10, .inl (fun _ => 0)))]) := hD
  refine W.widen (k := 3) (n := 80) (Nat.le_of_ble_eq_true rfl) (Nat.le_of_ble_eq_true rfl) ?_
  exact hQ _ _ _ _ _ ⟨z_q1, z_q2, z_q3, rfl⟩ dX6_init_28 hP hD hS
theorem dX7_init_0 : decode cX7_init 0 = .ok (.aload_n 0, 1) := by decide +kernel
theorem dX7_init_1 : decode cX7_init 1 = .ok (.invokespecial 1, 3) := by decide +kernel
theorem dX7_init_4 : decode cX7_init 4 = .ok (.aload_n 0, 1) := by decide +kernel
theorem dX7_init_5 : decode cX7_init 5 = .ok (.bipush 120, 2) := by decide +kernel
theorem dX7_init_7 : decode cX7_init 7 = .ok (.newarray .int, 2) := by decide +kernel
theorem dX7_init_9 : decode cX7_init 9 = .ok (.putfield 9, 3) := by decide +kernel
theorem dX7_init_12 : decode cX7_init 12 = .ok (.return_, 1) := by decide +kernel
theorem mi_X7_init : MI yX7_init cX7_init 1 0 := ⟨rfl, q_242, q_66, q_243, by decide +kernel, by decide +kernel, by decide +kernel⟩
set_option maxHeartbeats 8000000 in
set_option maxRecDepth 100000 in
theorem c_X7_init {l : Launch} {g : va_G} {ts : ClassId × ClassId × ClassId} {ws : va_W} {h0 : Nat} : ConG l g ts yX7_init cX7_init 1 ({ frames := 1, cells := 1, slots := 120, locals := 20 }) 1 120 (ws ++ [(h0, .inr (7, [.null, .int 0, .int 0, .null]))]) [.ref h0] (fun w => ∃ z_q1 : Nat, w = ws ++ [(h0, .inr (7, [.ref z_q1, .int 0, .int 0, .null])), (z_q1, .inl (ts.1, 120, .inl (fun _ => 0)))]) := by
  refine ConG_mk rfl rfl (by decide) rfl (Nat.le_of_ble_eq_true rfl) ?_
  intro p e s m below meth c A Q ls C hin hO hQ hP hD hS hl
  have C : FX p s m _ meth c RX7 cX7_init 1 g ts A := C
  have hx := C.1
  have hb := C.2.1
  have hown := C.2.2.2.1
  have hts := C.2.2.2.2.1
  have hA := C.2.2.2.2.2.1
  have hE := C.2.2.2.2.2.2
  have hK := hE.1
  have hl : lv_has ls 1 [(0, .ref h0)] := hl
  refine lv_aload_n hx hb dX7_init_0 rfl (lv_at hl 0 rfl) ?_
  refine W.objInit hx hb hown (hts _ q_244) (hts _ q_85) (hts _ q_86) rfl (by rw [C.2.2.1]; exact hl.1) rfl dX7_init_1 (Nat.le_of_ble_eq_true rfl) (Nat.le_of_ble_eq_true rfl) ?_
  refine W.eq (g2 := F0 m 4 ls []) rfl ?_
  refine lv_aload_n hx hb dX7_init_4 rfl (lv_at hl 0 rfl) ?_
  refine lv_bipush (v := 120) hx hb dX7_init_5 (by decide) ?_
  refine va_newa (D := g) (atype := .int) (a0 := (120, .inl (fun _ => 0))) hx hb (hts _ q_arrI) rfl hK hP hD hS hA (fun _ => rfl) (by decide) rfl (by decide) (Nat.le_of_ble_eq_true rfl) (Nat.le_of_ble_eq_true rfl) dX7_init_7 (fun z_q1 cA H hK2 hP hD hS => ?_)
  have hcA := clsI hE hK2
  subst hcA
  rw [List.append_assoc] at hP hD
  have hP : va_P g classes (ws ++ [(h0, .inr (7, [.null, .int 0, .int 0, .null])), (z_q1, .inl (ts.1, 120, .inl (fun _ => 0)))]) H := hP
  have hD : va_D A (ws ++ [(h0, .inr (7, [.null, .int 0, .int 0, .null])), (z_q1, .inl (ts.1, 120, .inl (fun _ => 0)))]) := hD
  refine va_putF (D := g) (ci := 7) (v := .ref z_q1) (ty := tyX7 0) (C := RX7) (T := TX7) (N := 4) hx hb hts inU7 tyX7 tyX7_ok nmX7 hown hK hP hD hS (ws.length + 0) (ga rfl) rfl 0 (by decide) (hts _ q_245) (fun _ h => h) rfl hin rfl (by decide +kernel) rfl rfl (Nat.le_of_ble_eq_true rfl) dX7_init_9 (fun H locs hP hD hS => ?_)
  rw [gs] at hP hD
  have hP : va_P g classes (ws ++ [(h0, .inr (7, [.ref z_q1, .int 0, .int 0, .null])), (z_q1, .inl (ts.1, 120, .inl (fun _ => 0)))]) H := hP
  have hD : va_D A (ws ++ [(h0, .inr (7, [.ref z_q1, .int 0, .int 0, .null])), (z_q1, .inl (ts.1, 120, .inl (fun _ => 0)))]) := hD
  refine W.widen (k := 1) (n := 120) (Nat.le_of_ble_eq_true rfl) (Nat.le_of_ble_eq_true rfl) ?_
  exact hQ _ _ _ _ _ ⟨z_q1, rfl⟩ dX7_init_12 hP hD hS
theorem dX8_init_0 : decode cX8_init 0 = .ok (.aload_n 0, 1) := by decide +kernel
theorem dX8_init_1 : decode cX8_init 1 = .ok (.invokespecial 3, 3) := by decide +kernel
theorem dX8_init_4 : decode cX8_init 4 = .ok (.aload_n 0, 1) := by decide +kernel
theorem dX8_init_5 : decode cX8_init 5 = .ok (.bipush 60, 2) := by decide +kernel
theorem dX8_init_7 : decode cX8_init 7 = .ok (.newarray .long, 2) := by decide +kernel
theorem dX8_init_9 : decode cX8_init 9 = .ok (.putfield 9, 3) := by decide +kernel
theorem dX8_init_12 : decode cX8_init 12 = .ok (.aload_n 0, 1) := by decide +kernel
theorem dX8_init_13 : decode cX8_init 13 = .ok (.iconst (-1), 1) := by decide +kernel
theorem dX8_init_14 : decode cX8_init 14 = .ok (.putfield 15, 3) := by decide +kernel
theorem dX8_init_17 : decode cX8_init 17 = .ok (.return_, 1) := by decide +kernel
theorem mi_X8_init : MI yX8_init cX8_init 1 0 := ⟨rfl, q_358, q_70, q_359, by decide +kernel, by decide +kernel, by decide +kernel⟩
set_option maxHeartbeats 8000000 in
set_option maxRecDepth 100000 in
theorem c_X8_init {l : Launch} {g : va_G} {ts : ClassId × ClassId × ClassId} {ws : va_W} {h0 : Nat} : ConG l g ts yX8_init cX8_init 1 ({ frames := 1, cells := 1, slots := 60, locals := 20 }) 1 60 (ws ++ [(h0, .inr (8, [.null, .int 0, .int 0, .int 0]))]) [.ref h0] (fun w => ∃ z_q1 : Nat, w = ws ++ [(h0, .inr (8, [.ref z_q1, .int (-1), .int 0, .int 0])), (z_q1, .inl (ts.2.1, 60, .inr (.inl (fun _ => 0))))]) := by
  refine ConG_mk rfl rfl (by decide) rfl (Nat.le_of_ble_eq_true rfl) ?_
  intro p e s m below meth c A Q ls C hin hO hQ hP hD hS hl
  have C : FX p s m _ meth c RX8 cX8_init 1 g ts A := C
  have hx := C.1
  have hb := C.2.1
  have hown := C.2.2.2.1
  have hts := C.2.2.2.2.1
  have hA := C.2.2.2.2.2.1
  have hE := C.2.2.2.2.2.2
  have hK := hE.1
  have hl : lv_has ls 1 [(0, .ref h0)] := hl
  refine lv_aload_n hx hb dX8_init_0 rfl (lv_at hl 0 rfl) ?_
  refine W.objInit hx hb hown (hts _ q_360) (hts _ q_85) (hts _ q_86) rfl (by rw [C.2.2.1]; exact hl.1) rfl dX8_init_1 (Nat.le_of_ble_eq_true rfl) (Nat.le_of_ble_eq_true rfl) ?_
  refine W.eq (g2 := F0 m 4 ls []) rfl ?_
  refine lv_aload_n hx hb dX8_init_4 rfl (lv_at hl 0 rfl) ?_
  refine lv_bipush (v := 60) hx hb dX8_init_5 (by decide) ?_
  refine va_newa (D := g) (atype := .long) (a0 := (60, .inr (.inl (fun _ => 0)))) hx hb (hts _ q_arrL) rfl hK hP hD hS hA (fun _ => rfl) (by decide) rfl (by decide) (Nat.le_of_ble_eq_true rfl) (Nat.le_of_ble_eq_true rfl) dX8_init_7 (fun z_q1 cA H hK2 hP hD hS => ?_)
  have hcA := clsL hE hK2
  subst hcA
  rw [List.append_assoc] at hP hD
  have hP : va_P g classes (ws ++ [(h0, .inr (8, [.null, .int 0, .int 0, .int 0])), (z_q1, .inl (ts.2.1, 60, .inr (.inl (fun _ => 0))))]) H := hP
  have hD : va_D A (ws ++ [(h0, .inr (8, [.null, .int 0, .int 0, .int 0])), (z_q1, .inl (ts.2.1, 60, .inr (.inl (fun _ => 0))))]) := hD
  refine va_putF (D := g) (ci := 8) (v := .ref z_q1) (ty := tyX8 0) (C := RX8) (T := TX8) (N := 4) hx hb hts inU8 tyX8 tyX8_ok nmX8 hown hK hP hD hS (ws.length + 0) (ga rfl) rfl 0 (by decide) (hts _ q_361) (fun _ h => h) rfl hin rfl (by decide +kernel) rfl rfl (Nat.le_of_ble_eq_true rfl) dX8_init_9 (fun H locs hP hD hS => ?_)
  rw [gs] at hP hD
  have hP : va_P g classes (ws ++ [(h0, .inr (8, [.ref z_q1, .int 0, .int 0, .int 0])), (z_q1, .inl (ts.2.1, 60, .inr (.inl (fun _ => 0))))]) H := hP
  have hD : va_D A (ws ++ [(h0, .inr (8, [.ref z_q1, .int 0, .int 0, .int 0])), (z_q1, .inl (ts.2.1, 60, .inr (.inl (fun _ => 0))))]) := hD
  refine lv_aload_n hx hb dX8_init_12 rfl (lv_at hl 0 rfl) ?_
  refine lv_iconst (v := -1) hx hb dX8_init_13 (by decide) ?_
  refine va_put (D := g) (ci := 8) (v := .int (-1)) (ty := .int) (C := RX8) (T := TX8) (N := 4) hx hb hts inU8 tyX8 tyX8_ok nmX8 hown hK hP hD hS (ws.length + 0) (ga rfl) rfl 1 (by decide) (hts _ q_363) (fun _ h => h) rfl (by decide +kernel) rfl rfl (Nat.le_of_ble_eq_true rfl) dX8_init_14 (fun H locs hP hD hS => ?_)
  rw [gs] at hP hD
  have hP : va_P g classes (ws ++ [(h0, .inr (8, [.ref z_q1, .int (-1), .int 0, .int 0])), (z_q1, .inl (ts.2.1, 60, .inr (.inl (fun _ => 0))))]) H := hP
  have hD : va_D A (ws ++ [(h0, .inr (8, [.ref z_q1, .int (-1), .int 0, .int 0])), (z_q1, .inl (ts.2.1, 60, .inr (.inl (fun _ => 0))))]) := hD
  refine W.widen (k := 1) (n := 60) (Nat.le_of_ble_eq_true rfl) (Nat.le_of_ble_eq_true rfl) ?_
  exact hQ _ _ _ _ _ ⟨z_q1, rfl⟩ dX8_init_17 hP hD hS
theorem dX10_init_0 : decode cX10_init 0 = .ok (.aload_n 0, 1) := by decide +kernel
theorem dX10_init_1 : decode cX10_init 1 = .ok (.invokespecial 3, 3) := by decide +kernel
theorem dX10_init_4 : decode cX10_init 4 = .ok (.aload_n 0, 1) := by decide +kernel
theorem dX10_init_5 : decode cX10_init 5 = .ok (.bipush 50, 2) := by decide +kernel
theorem dX10_init_7 : decode cX10_init 7 = .ok (.newarray .int, 2) := by decide +kernel
theorem dX10_init_9 : decode cX10_init 9 = .ok (.putfield 11, 3) := by decide +kernel
theorem dX10_init_12 : decode cX10_init 12 = .ok (.aload_n 0, 1) := by decide +kernel
theorem dX10_init_13 : decode cX10_init 13 = .ok (.bipush 24, 2) := by decide +kernel
theorem dX10_init_15 : decode cX10_init 15 = .ok (.newarray .int, 2) := by decide +kernel
theorem dX10_init_17 : decode cX10_init 17 = .ok (.putfield 15, 3) := by decide +kernel
theorem dX10_init_20 : decode cX10_init 20 = .ok (.return_, 1) := by decide +kernel
theorem mi_X10_init : MI yX10_init cX10_init 1 0 := ⟨rfl, q_334, q_69, q_335, by decide +kernel, by decide +kernel, by decide +kernel⟩
set_option maxHeartbeats 8000000 in
set_option maxRecDepth 100000 in
theorem c_X10_init {l : Launch} {g : va_G} {ts : ClassId × ClassId × ClassId} {ws : va_W} {h0 : Nat} : ConG l g ts yX10_init cX10_init 1 ({ frames := 1, cells := 2, slots := 74, locals := 20 }) 2 74 (ws ++ [(h0, .inr (10, [.null, .null, .int 0, .int 0]))]) [.ref h0] (fun w => ∃ z_q1 z_q2 : Nat, w = ws ++ [(h0, .inr (10, [.ref z_q1, .ref z_q2, .int 0, .int 0])), (z_q1, .inl (ts.1, 50, .inl (fun _ => 0))), (z_q2, .inl (ts.1, 24, .inl (fun _ => 0)))]) := by
  refine ConG_mk rfl rfl (by decide) rfl (Nat.le_of_ble_eq_true rfl) ?_
  intro p e s m below meth c A Q ls C hin hO hQ hP hD hS hl
  have C : FX p s m _ meth c RX10 cX10_init 1 g ts A := C
  have hx := C.1
  have hb := C.2.1
  have hown := C.2.2.2.1
  have hts := C.2.2.2.2.1
  have hA := C.2.2.2.2.2.1
  have hE := C.2.2.2.2.2.2
  have hK := hE.1
  have hl : lv_has ls 1 [(0, .ref h0)] := hl
  refine lv_aload_n hx hb dX10_init_0 rfl (lv_at hl 0 rfl) ?_
  refine W.objInit hx hb hown (hts _ q_336) (hts _ q_85) (hts _ q_86) rfl (by rw [C.2.2.1]; exact hl.1) rfl dX10_init_1 (Nat.le_of_ble_eq_true rfl) (Nat.le_of_ble_eq_true rfl) ?_
  refine W.eq (g2 := F0 m 4 ls []) rfl ?_
  refine lv_aload_n hx hb dX10_init_4 rfl (lv_at hl 0 rfl) ?_
  refine lv_bipush (v := 50) hx hb dX10_init_5 (by decide) ?_
  refine va_newa (D := g) (atype := .int) (a0 := (50, .inl (fun _ => 0))) hx hb (hts _ q_arrI) rfl hK hP hD hS hA (fun _ => rfl) (by decide) rfl (by decide) (Nat.le_of_ble_eq_true rfl) (Nat.le_of_ble_eq_true rfl) dX10_init_7 (fun z_q1 cA H hK2 hP hD hS => ?_)
  have hcA := clsI hE hK2
  subst hcA
  rw [List.append_assoc] at hP hD
  have hP : va_P g classes (ws ++ [(h0, .inr (10, [.null, .null, .int 0, .int 0])), (z_q1, .inl (ts.1, 50, .inl (fun _ => 0)))]) H := hP
  have hD : va_D A (ws ++ [(h0, .inr (10, [.null, .null, .int 0, .int 0])), (z_q1, .inl (ts.1, 50, .inl (fun _ => 0)))]) := hD
  refine va_putF (D := g) (ci := 10) (v := .ref z_q1) (ty := tyX10 0) (C := RX10) (T := TX10) (N := 4) hx hb hts inU10 tyX10 tyX10_ok nmX10 hown hK hP hD hS (ws.length + 0) (ga rfl) rfl 0 (by decide) (hts _ q_337) (fun _ h => h) rfl hin rfl (by decide +kernel) rfl rfl (Nat.le_of_ble_eq_true rfl) dX10_init_9 (fun H locs hP hD hS => ?_)
  rw [gs] at hP hD
  have hP : va_P g classes (ws ++ [(h0, .inr (10, [.ref z_q1, .null, .int 0, .int 0])), (z_q1, .inl (ts.1, 50, .inl (fun _ => 0)))]) H := hP
  have hD : va_D A (ws ++ [(h0, .inr (10, [.ref z_q1, .null, .int 0, .int 0])), (z_q1, .inl (ts.1, 50, .inl (fun _ => 0)))]) := hD
  refine lv_aload_n hx hb dX10_init_12 rfl (lv_at hl 0 rfl) ?_
  refine lv_bipush (v := 24) hx hb dX10_init_13 (by decide) ?_
  refine va_newa (D := g) (atype := .int) (a0 := (24, .inl (fun _ => 0))) hx hb (hts _ q_arrI) rfl hK hP hD hS hA (fun _ => rfl) (by decide) rfl (by decide) (Nat.le_of_ble_eq_true rfl) (Nat.le_of_ble_eq_true rfl) dX10_init_15 (fun z_q2 cA H hK2 hP hD hS => ?_)
  have hcA := clsI hE hK2
  subst hcA
  rw [List.append_assoc] at hP hD
  have hP : va_P g classes (ws ++ [(h0, .inr (10, [.ref z_q1, .null, .int 0, .int 0])), (z_q1, .inl (ts.1, 50, .inl (fun _ => 0))), (z_q2, .inl (ts.1, 24, .inl (fun _ => 0)))]) H := hP
  have hD : va_D A (ws ++ [(h0, .inr (10, [.ref z_q1, .null, .int 0, .int 0])), (z_q1, .inl (ts.1, 50, .inl (fun _ => 0))), (z_q2, .inl (ts.1, 24, .inl (fun _ => 0)))]) := hD
  refine va_putF (D := g) (ci := 10) (v := .ref z_q2) (ty := tyX10 1) (C := RX10) (T := TX10) (N := 4) hx hb hts inU10 tyX10 tyX10_ok nmX10 hown hK hP hD hS (ws.length + 0) (ga rfl) rfl 1 (by decide) (hts _ q_339) (fun _ h => h) rfl hin rfl (by decide +kernel) rfl rfl (Nat.le_of_ble_eq_true rfl) dX10_init_17 (fun H locs hP hD hS => ?_)
  rw [gs] at hP hD
  have hP : va_P g classes (ws ++ [(h0, .inr (10, [.ref z_q1, .ref z_q2, .int 0, .int 0])), (z_q1, .inl (ts.1, 50, .inl (fun _ => 0))), (z_q2, .inl (ts.1, 24, .inl (fun _ => 0)))]) H := hP
  have hD : va_D A (ws ++ [(h0, .inr (10, [.ref z_q1, .ref z_q2, .int 0, .int 0])), (z_q1, .inl (ts.1, 50, .inl (fun _ => 0))), (z_q2, .inl (ts.1, 24, .inl (fun _ => 0)))]) := hD
  refine W.widen (k := 2) (n := 74) (Nat.le_of_ble_eq_true rfl) (Nat.le_of_ble_eq_true rfl) ?_
  exact hQ _ _ _ _ _ ⟨z_q1, z_q2, rfl⟩ dX10_init_20 hP hD hS
theorem dX9_init_0 : decode cX9_init 0 = .ok (.aload_n 0, 1) := by decide +kernel
theorem dX9_init_1 : decode cX9_init 1 = .ok (.invokespecial 3, 3) := by decide +kernel
theorem dX9_init_4 : decode cX9_init 4 = .ok (.aload_n 0, 1) := by decide +kernel
theorem dX9_init_5 : decode cX9_init 5 = .ok (.bipush 6, 2) := by decide +kernel
theorem dX9_init_7 : decode cX9_init 7 = .ok (.newarray .int, 2) := by decide +kernel
theorem dX9_init_9 : decode cX9_init 9 = .ok (.putfield 9, 3) := by decide +kernel
theorem dX9_init_12 : decode cX9_init 12 = .ok (.aload_n 0, 1) := by decide +kernel
theorem dX9_init_13 : decode cX9_init 13 = .ok (.bipush 6, 2) := by decide +kernel
theorem dX9_init_15 : decode cX9_init 15 = .ok (.newarray .int, 2) := by decide +kernel
theorem dX9_init_17 : decode cX9_init 17 = .ok (.putfield 15, 3) := by decide +kernel
theorem dX9_init_20 : decode cX9_init 20 = .ok (.aload_n 0, 1) := by decide +kernel
theorem dX9_init_21 : decode cX9_init 21 = .ok (.aload_n 1, 1) := by decide +kernel
theorem dX9_init_22 : decode cX9_init 22 = .ok (.putfield 18, 3) := by decide +kernel
theorem dX9_init_25 : decode cX9_init 25 = .ok (.aload_n 0, 1) := by decide +kernel
theorem dX9_init_26 : decode cX9_init 26 = .ok (.aload_n 2, 1) := by decide +kernel
theorem dX9_init_27 : decode cX9_init 27 = .ok (.putfield 22, 3) := by decide +kernel
theorem dX9_init_30 : decode cX9_init 30 = .ok (.return_, 1) := by decide +kernel
theorem mi_X9_init : MI yX9_init cX9_init 3 2 := ⟨rfl, q_180, q_63, q_181, by decide +kernel, by decide +kernel, by decide +kernel⟩
set_option maxHeartbeats 8000000 in
set_option maxRecDepth 100000 in
theorem c_X9_init {l : Launch} {g : va_G} {ts : ClassId × ClassId × ClassId} {ws : va_W} {h0 : Nat} {b1 : Nat} {b2 : Nat} : ConG l g ts yX9_init cX9_init 3 ({ frames := 1, cells := 2, slots := 12, locals := 20 }) 2 12 (ws ++ [(h0, .inr (9, [.null, .null, .null, .null]))]) [.ref h0, .ref b1, .ref b2] (fun w => ∃ z_q1 z_q2 : Nat, w = ws ++ [(h0, .inr (9, [.ref b1, .ref b2, .ref z_q1, .ref z_q2])), (z_q1, .inl (ts.1, 6, .inl (fun _ => 0))), (z_q2, .inl (ts.1, 6, .inl (fun _ => 0)))]) := by
  refine ConG_mk rfl rfl (by decide) rfl (Nat.le_of_ble_eq_true rfl) ?_
  intro p e s m below meth c A Q ls C hin hO hQ hP hD hS hl
  have C : FX p s m _ meth c RX9 cX9_init 3 g ts A := C
  have hx := C.1
  have hb := C.2.1
  have hown := C.2.2.2.1
  have hts := C.2.2.2.2.1
  have hA := C.2.2.2.2.2.1
  have hE := C.2.2.2.2.2.2
  have hK := hE.1
  have hl : lv_has ls 3 [(0, .ref h0), (1, .ref b1), (2, .ref b2)] := hl
  refine lv_aload_n hx hb dX9_init_0 rfl (lv_at hl 0 rfl) ?_
  refine W.objInit hx hb hown (hts _ q_182) (hts _ q_85) (hts _ q_86) rfl (by rw [C.2.2.1]; exact hl.1) rfl dX9_init_1 (Nat.le_of_ble_eq_true rfl) (Nat.le_of_ble_eq_true rfl) ?_
  refine W.eq (g2 := F0 m 4 ls []) rfl ?_
  refine lv_aload_n hx hb dX9_init_4 rfl (lv_at hl 0 rfl) ?_
  refine lv_bipush (v := 6) hx hb dX9_init_5 (by decide) ?_
  refine va_newa (D := g) (atype := .int) (a0 := (6, .inl (fun _ => 0))) hx hb (hts _ q_arrI) rfl hK hP hD hS hA (fun _ => rfl) (by decide) rfl (by decide) (Nat.le_of_ble_eq_true rfl) (Nat.le_of_ble_eq_true rfl) dX9_init_7 (fun z_q1 cA H hK2 hP hD hS => ?_)
  have hcA := clsI hE hK2
  subst hcA
  rw [List.append_assoc] at hP hD
  have hP : va_P g classes (ws ++ [(h0, .inr (9, [.null, .null, .null, .null])), (z_q1, .inl (ts.1, 6, .inl (fun _ => 0)))]) H := hP
  have hD : va_D A (ws ++ [(h0, .inr (9, [.null, .null, .null, .null])), (z_q1, .inl (ts.1, 6, .inl (fun _ => 0)))]) := hD
  refine va_putF (D := g) (ci := 9) (v := .ref z_q1) (ty := tyX9 2) (C := RX9) (T := TX9) (N := 4) hx hb hts inU9 tyX9 tyX9_ok nmX9 hown hK hP hD hS (ws.length + 0) (ga rfl) rfl 2 (by decide) (hts _ q_185) (fun _ h => h) rfl hin rfl (by decide +kernel) rfl rfl (Nat.le_of_ble_eq_true rfl) dX9_init_9 (fun H locs hP hD hS => ?_)
  rw [gs] at hP hD
  have hP : va_P g classes (ws ++ [(h0, .inr (9, [.null, .null, .ref z_q1, .null])), (z_q1, .inl (ts.1, 6, .inl (fun _ => 0)))]) H := hP
  have hD : va_D A (ws ++ [(h0, .inr (9, [.null, .null, .ref z_q1, .null])), (z_q1, .inl (ts.1, 6, .inl (fun _ => 0)))]) := hD
  refine lv_aload_n hx hb dX9_init_12 rfl (lv_at hl 0 rfl) ?_
  refine lv_bipush (v := 6) hx hb dX9_init_13 (by decide) ?_
  refine va_newa (D := g) (atype := .int) (a0 := (6, .inl (fun _ => 0))) hx hb (hts _ q_arrI) rfl hK hP hD hS hA (fun _ => rfl) (by decide) rfl (by decide) (Nat.le_of_ble_eq_true rfl) (Nat.le_of_ble_eq_true rfl) dX9_init_15 (fun z_q2 cA H hK2 hP hD hS => ?_)
  have hcA := clsI hE hK2
  subst hcA
  rw [List.append_assoc] at hP hD
  have hP : va_P g classes (ws ++ [(h0, .inr (9, [.null, .null, .ref z_q1, .null])), (z_q1, .inl (ts.1, 6, .inl (fun _ => 0))), (z_q2, .inl (ts.1, 6, .inl (fun _ => 0)))]) H := hP
  have hD : va_D A (ws ++ [(h0, .inr (9, [.null, .null, .ref z_q1, .null])), (z_q1, .inl (ts.1, 6, .inl (fun _ => 0))), (z_q2, .inl (ts.1, 6, .inl (fun _ => 0)))]) := hD
  refine va_putF (D := g) (ci := 9) (v := .ref z_q2) (ty := tyX9 3) (C := RX9) (T := TX9) (N := 4) hx hb hts inU9 tyX9 tyX9_ok nmX9 hown hK hP hD hS (ws.length + 0) (ga rfl) rfl 3 (by decide) (hts _ q_186) (fun _ h => h) rfl hin rfl (by decide +kernel) rfl rfl (Nat.le_of_ble_eq_true rfl) dX9_init_17 (fun H locs hP hD hS => ?_)
  rw [gs] at hP hD
  have hP : va_P g classes (ws ++ [(h0, .inr (9, [.null, .null, .ref z_q1, .ref z_q2])), (z_q1, .inl (ts.1, 6, .inl (fun _ => 0))), (z_q2, .inl (ts.1, 6, .inl (fun _ => 0)))]) H := hP
  have hD : va_D A (ws ++ [(h0, .inr (9, [.null, .null, .ref z_q1, .ref z_q2])), (z_q1, .inl (ts.1, 6, .inl (fun _ => 0))), (z_q2, .inl (ts.1, 6, .inl (fun _ => 0)))]) := hD
  refine lv_aload_n hx hb dX9_init_20 rfl (lv_at hl 0 rfl) ?_
  refine lv_aload_n hx hb dX9_init_21 rfl (lv_at hl 1 rfl) ?_
  refine va_putF (D := g) (ci := 9) (v := .ref b1) (ty := tyX9 0) (C := RX9) (T := TX9) (N := 4) hx hb hts inU9 tyX9 tyX9_ok nmX9 hown hK hP hD hS (ws.length + 0) (ga rfl) rfl 0 (by decide) (hts _ q_183) (fun _ h => h) rfl hin rfl (by decide +kernel) rfl rfl (Nat.le_of_ble_eq_true rfl) dX9_init_22 (fun H locs hP hD hS => ?_)
  rw [gs] at hP hD
  have hP : va_P g classes (ws ++ [(h0, .inr (9, [.ref b1, .null, .ref z_q1, .ref z_q2])), (z_q1, .inl (ts.1, 6, .inl (fun _ => 0))), (z_q2, .inl (ts.1, 6, .inl (fun _ => 0)))]) H := hP
  have hD : va_D A (ws ++ [(h0, .inr (9, [.ref b1, .null, .ref z_q1, .ref z_q2])), (z_q1, .inl (ts.1, 6, .inl (fun _ => 0))), (z_q2, .inl (ts.1, 6, .inl (fun _ => 0)))]) := hD
  refine lv_aload_n hx hb dX9_init_25 rfl (lv_at hl 0 rfl) ?_
  refine lv_aload_n hx hb dX9_init_26 rfl (lv_at hl 2 rfl) ?_
  refine va_putF (D := g) (ci := 9) (v := .ref b2) (ty := tyX9 1) (C := RX9) (T := TX9) (N := 4) hx hb hts inU9 tyX9 tyX9_ok nmX9 hown hK hP hD hS (ws.length + 0) (ga rfl) rfl 1 (by decide) (hts _ q_184) (fun _ h => h) rfl hin rfl (by decide +kernel) rfl rfl (Nat.le_of_ble_eq_true rfl) dX9_init_27 (fun H locs hP hD hS => ?_)
  rw [gs] at hP hD
  have hP : va_P g classes (ws ++ [(h0, .inr (9, [.ref b1, .ref b2, .ref z_q1, .ref z_q2])), (z_q1, .inl (ts.1, 6, .inl (fun _ => 0))), (z_q2, .inl (ts.1, 6, .inl (fun _ => 0)))]) H := hP
  have hD : va_D A (ws ++ [(h0, .inr (9, [.ref b1, .ref b2, .ref z_q1, .ref z_q2])), (z_q1, .inl (ts.1, 6, .inl (fun _ => 0))), (z_q2, .inl (ts.1, 6, .inl (fun _ => 0)))]) := hD
  refine W.widen (k := 2) (n := 12) (Nat.le_of_ble_eq_true rfl) (Nat.le_of_ble_eq_true rfl) ?_
  exact hQ _ _ _ _ _ ⟨z_q1, z_q2, rfl⟩ dX9_init_30 hP hD hS
theorem dX3_init_0 : decode cX3_init 0 = .ok (.aload_n 0, 1) := by decide +kernel
theorem dX3_init_1 : decode cX3_init 1 = .ok (.invokespecial 3, 3) := by decide +kernel
theorem dX3_init_4 : decode cX3_init 4 = .ok (.aload_n 0, 1) := by decide +kernel
theorem dX3_init_5 : decode cX3_init 5 = .ok (.bipush 10, 2) := by decide +kernel
theorem dX3_init_7 : decode cX3_init 7 = .ok (.newarray .long, 2) := by decide +kernel
theorem dX3_init_9 : decode cX3_init 9 = .ok (.putfield 9, 3) := by decide +kernel
theorem dX3_init_12 : decode cX3_init 12 = .ok (.aload_n 0, 1) := by decide +kernel
theorem dX3_init_13 : decode cX3_init 13 = .ok (.aload_n 1, 1) := by decide +kernel
theorem dX3_init_14 : decode cX3_init 14 = .ok (.putfield 15, 3) := by decide +kernel
theorem dX3_init_17 : decode cX3_init 17 = .ok (.aload_n 0, 1) := by decide +kernel
theorem dX3_init_18 : decode cX3_init 18 = .ok (.aload_n 2, 1) := by decide +kernel
theorem dX3_init_19 : decode cX3_init 19 = .ok (.putfield 19, 3) := by decide +kernel
theorem dX3_init_22 : decode cX3_init 22 = .ok (.return_, 1) := by decide +kernel
theorem mi_X3_init : MI yX3_init cX3_init 3 2 := ⟨rfl, q_199, q_64, q_200, by decide +kernel, by decide +kernel, by decide +kernel⟩
set_option maxHeartbeats 8000000 in
set_option maxRecDepth 100000 in
theorem c_X3_init {l : Launch} {g : va_G} {ts : ClassId × ClassId × ClassId} {ws : va_W} {h0 : Nat} {b1 : Nat} {b2 : Nat} : ConG l g ts yX3_init cX3_init 3 ({ frames := 1, cells := 1, slots := 10, locals := 20 }) 1 10 (ws ++ [(h0, .inr (3, [.null, .null, .null, .long 0]))]) [.ref h0, .ref b1, .ref b2] (fun w => ∃ z_q1 : Nat, w = ws ++ [(h0, .inr (3, [.ref b1, .ref b2, .ref z_q1, .long 0])), (z_q1, .inl (ts.2.1, 10, .inr (.inl (fun _ => 0))))]) := by
  refine ConG_mk rfl rfl (by decide) rfl (Nat.le_of_ble_eq_true rfl) ?_
  intro p e s m below meth c A Q ls C hin hO hQ hP hD hS hl
  have C : FX p s m _ meth c RX3 cX3_init 3 g ts A := C
  have hx := C.1
  have hb := C.2.1
  have hown := C.2.2.2.1
  have hts := C.2.2.2.2.1
  have hA := C.2.2.2.2.2.1
  have hE := C.2.2.2.2.2.2
  have hK := hE.1
  have hl : lv_has ls 3 [(0, .ref h0), (1, .ref b1), (2, .ref b2)] := hl
  refine lv_aload_n hx hb dX3_init_0 rfl (lv_at hl 0 rfl) ?_
  refine W.objInit hx hb hown (hts _ q_201) (hts _ q_85) (hts _ q_86) rfl (by rw [C.2.2.1]; exact hl.1) rfl dX3_init_1 (Nat.le_of_ble_eq_true rfl) (Nat.le_of_ble_eq_true rfl) ?_
  refine W.eq (g2 := F0 m 4 ls []) rfl ?_
  refine lv_aload_n hx hb dX3_init_4 rfl (lv_at hl 0 rfl) ?_
  refine lv_bipush (v := 10) hx hb dX3_init_5 (by decide) ?_
  refine va_newa (D := g) (atype := .long) (a0 := (10, .inr (.inl (fun _ => 0)))) hx hb (hts _ q_arrL) rfl hK hP hD hS hA (fun _ => rfl) (by decide) rfl (by decide) (Nat.le_of_ble_eq_true rfl) (Nat.le_of_ble_eq_true rfl) dX3_init_7 (fun z_q1 cA H hK2 hP hD hS => ?_)
  have hcA := clsL hE hK2
  subst hcA
  rw [List.append_assoc] at hP hD
  have hP : va_P g classes (ws ++ [(h0, .inr (3, [.null, .null, .null, .long 0])), (z_q1, .inl (ts.2.1, 10, .inr (.inl (fun _ => 0))))]) H := hP
  have hD : va_D A (ws ++ [(h0, .inr (3, [.null, .null, .null, .long 0])), (z_q1, .inl (ts.2.1, 10, .inr (.inl (fun _ => 0))))]) := hD
  refine va_putF (D := g) (ci := 3) (v := .ref z_q1) (ty := tyX3 2) (C := RX3) (T := TX3) (N := 4) hx hb hts inU3 tyX3 tyX3_ok nmX3 hown hK hP hD hS (ws.length + 0) (ga rfl) rfl 2 (by decide) (hts _ q_204) (fun _ h => h) rfl hin rfl (by decide +kernel) rfl rfl (Nat.le_of_ble_eq_true rfl) dX3_init_9 (fun H locs hP hD hS => ?_)
  rw [gs] at hP hD
  have hP : va_P g classes (ws ++ [(h0, .inr (3, [.null, .null, .ref z_q1, .long 0])), (z_q1, .inl (ts.2.1, 10, .inr (.inl (fun _ => 0))))]) H := hP
  have hD : va_D A (ws ++ [(h0, .inr (3, [.null, .null, .ref z_q1, .long 0])), (z_q1, .inl (ts.2.1, 10, .inr (.inl (fun _ => 0))))]) := hD
  refine lv_aload_n hx hb dX3_init_12 rfl (lv_at hl 0 rfl) ?_
  refine lv_aload_n hx hb dX3_init_13 rfl (lv_at hl 1 rfl) ?_
  refine va_putF (D := g) (ci := 3) (v := .ref b1) (ty := tyX3 0) (C := RX3) (T := TX3) (N := 4) hx hb hts inU3 tyX3 tyX3_ok nmX3 hown hK hP hD hS (ws.length + 0) (ga rfl) rfl 0 (by decide) (hts _ q_202) (fun _ h => h) rfl hin rfl (by decide +kernel) rfl rfl (Nat.le_of_ble_eq_true rfl) dX3_init_14 (fun H locs hP hD hS => ?_)
  rw [gs] at hP hD
  have hP : va_P g classes (ws ++ [(h0, .inr (3, [.ref b1, .null, .ref z_q1, .long 0])), (z_q1, .inl (ts.2.1, 10, .inr (.inl (fun _ => 0))))]) H := hP
  have hD : va_D A (ws ++ [(h0, .inr (3, [.ref b1, .null, .ref z_q1, .long 0])), (z_q1, .inl (ts.2.1, 10, .inr (.inl (fun _ => 0))))]) := hD
  refine lv_aload_n hx hb dX3_init_17 rfl (lv_at hl 0 rfl) ?_
  refine lv_aload_n hx hb dX3_init_18 rfl (lv_at hl 2 rfl) ?_
  refine va_putF (D := g) (ci := 3) (v := .ref b2) (ty := tyX3 1) (C := RX3) (T := TX3) (N := 4) hx hb hts inU3 tyX3 tyX3_ok nmX3 hown hK hP hD hS (ws.length + 0) (ga rfl) rfl 1 (by decide) (hts _ q_203) (fun _ h => h) rfl hin rfl (by decide +kernel) rfl rfl (Nat.le_of_ble_eq_true rfl) dX3_init_19 (fun H locs hP hD hS => ?_)
  rw [gs] at hP hD
  have hP : va_P g classes (ws ++ [(h0, .inr (3, [.ref b1, .ref b2, .ref z_q1, .long 0])), (z_q1, .inl (ts.2.1, 10, .inr (.inl (fun _ => 0))))]) H := hP
  have hD : va_D A (ws ++ [(h0, .inr (3, [.ref b1, .ref b2, .ref z_q1, .long 0])), (z_q1, .inl (ts.2.1, 10, .inr (.inl (fun _ => 0))))]) := hD
  refine W.widen (k := 1) (n := 10) (Nat.le_of_ble_eq_true rfl) (Nat.le_of_ble_eq_true rfl) ?_
  exact hQ _ _ _ _ _ ⟨z_q1, rfl⟩ dX3_init_22 hP hD hS
theorem dX2_init_0 : decode cX2_init 0 = .ok (.aload_n 0, 1) := by decide +kernel
theorem dX2_init_1 : decode cX2_init 1 = .ok (.invokespecial 3, 3) := by decide +kernel
theorem dX2_init_4 : decode cX2_init 4 = .ok (.aload_n 0, 1) := by decide +kernel
theorem dX2_init_5 : decode cX2_init 5 = .ok (.bipush 45, 2) := by decide +kernel
theorem dX2_init_7 : decode cX2_init 7 = .ok (.newarray .long, 2) := by decide +kernel
theorem dX2_init_9 : decode cX2_init 9 = .ok (.putfield 11, 3) := by decide +kernel
theorem dX2_init_12 : decode cX2_init 12 = .ok (.aload_n 0, 1) := by decide +kernel
theorem dX2_init_13 : decode cX2_init 13 = .ok (.bipush 45, 2) := by decide +kernel
theorem dX2_init_15 : decode cX2_init 15 = .ok (.newarray .long, 2) := by decide +kernel
theorem dX2_init_17 : decode cX2_init 17 = .ok (.putfield 15, 3) := by decide +kernel
theorem dX2_init_20 : decode cX2_init 20 = .ok (.aload_n 0, 1) := by decide +kernel
theorem dX2_init_21 : decode cX2_init 21 = .ok (.aload_n 1, 1) := by decide +kernel
theorem dX2_init_22 : decode cX2_init 22 = .ok (.putfield 18, 3) := by decide +kernel
theorem dX2_init_25 : decode cX2_init 25 = .ok (.return_, 1) := by decide +kernel
theorem mi_X2_init : MI yX2_init cX2_init 2 1 := ⟨rfl, q_221, q_65, q_222, by decide +kernel, by decide +kernel, by decide +kernel⟩
set_option maxHeartbeats 8000000 in
set_option maxRecDepth 100000 in
theorem c_X2_init {l : Launch} {g : va_G} {ts : ClassId × ClassId × ClassId} {ws : va_W} {h0 : Nat} {b1 : Nat} : ConG l g ts yX2_init cX2_init 2 ({ frames := 1, cells := 2, slots := 90, locals := 20 }) 2 90 (ws ++ [(h0, .inr (2, [.null, .null, .null, .long 0]))]) [.ref h0, .ref b1] (fun w => ∃ z_q1 z_q2 : Nat, w = ws ++ [(h0, .inr (2, [.ref b1, .ref z_q1, .ref z_q2, .long 0])), (z_q1, .inl (ts.2.1, 45, .inr (.inl (fun _ => 0)))), (z_q2, .inl (ts.2.1, 45, .inr (.inl (fun _ => 0))))]) := by
  refine ConG_mk rfl rfl (by decide) rfl (Nat.le_of_ble_eq_true rfl) ?_
  intro p e s m below meth c A Q ls C hin hO hQ hP hD hS hl
  have C : FX p s m _ meth c RX2 cX2_init 2 g ts A := C
  have hx := C.1
  have hb := C.2.1
  have hown := C.2.2.2.1
  have hts := C.2.2.2.2.1
  have hA := C.2.2.2.2.2.1
  have hE := C.2.2.2.2.2.2
  have hK := hE.1
  have hl : lv_has ls 2 [(0, .ref h0), (1, .ref b1)] := hl
  refine lv_aload_n hx hb dX2_init_0 rfl (lv_at hl 0 rfl) ?_
  refine W.objInit hx hb hown (hts _ q_223) (hts _ q_85) (hts _ q_86) rfl (by rw [C.2.2.1]; exact hl.1) rfl dX2_init_1 (Nat.le_of_ble_eq_true rfl) (Nat.le_of_ble_eq_true rfl) ?_
  refine W.eq (g2 := F0 m 4 ls []) rfl ?_
  refine lv_aload_n hx hb dX2_init_4 rfl (lv_at hl 0 rfl) ?_
  refine lv_bipush (v := 45) hx hb dX2_init_5 (by decide) ?_
  refine va_newa (D := g) (atype := .long) (a0 := (45, .inr (.inl (fun _ => 0)))) hx hb (hts _ q_arrL) rfl hK hP hD hS hA (fun _ => rfl) (by decide) rfl (by decide) (Nat.le_of_ble_eq_true rfl) (Nat.le_of_ble_eq_true rfl) dX2_init_7 (fun z_q1 cA H hK2 hP hD hS => ?_)
  have hcA := clsL hE hK2
  subst hcA
  rw [List.append_assoc] at hP hD
  have hP : va_P g classes (ws ++ [(h0, .inr (2, [.null, .null, .null, .long 0])), (z_q1, .inl (ts.2.1, 45, .inr (.inl (fun _ => 0))))]) H := hP
  have hD : va_D A (ws ++ [(h0, .inr (2, [.null, .null, .null, .long 0])), (z_q1, .inl (ts.2.1, 45, .inr (.inl (fun _ => 0))))]) := hD
  refine va_put (D := g) (ci := 2) (v := .ref z_q1) (ty := tyX2 1) (C := RX2) (T := TX2) (N := 4) hx hb hts inU2 tyX2 tyX2_ok nmX2 hown hK hP hD hS (ws.length + 0) (ga rfl) rfl 1 (by decide) (hts _ q_225) (fun _ h => h) rfl (by decide +kernel) rfl rfl (Nat.le_of_ble_eq_true rfl) dX2_init_9 (fun H locs hP hD hS => ?_)
  rw [gs] at hP hD
  have hP : va_P g classes (ws ++ [(h0, .inr (2, [.null, .ref z_q1, .null, .long 0])), (z_q1, .inl (ts.2.1, 45, .inr (.inl (fun _ => 0))))]) H := hP
  have hD : va_D A (ws ++ [(h0, .inr (2, [.null, .ref z_q1, .null, .long 0])), (z_q1, .inl (ts.2.1, 45, .inr (.inl (fun _ => 0))))]) := hD
  refine lv_aload_n hx hb dX2_init_12 rfl (lv_at hl 0 rfl) ?_
  refine lv_bipush (v := 45) hx hb dX2_init_13 (by decide) ?_
  refine va_newa (D := g) (atype := .long) (a0 := (45, .inr (.inl (fun _ => 0)))) hx hb (hts _ q_arrL) rfl hK hP hD hS hA (fun _ => rfl) (by decide) rfl (by decide) (Nat.le_of_ble_eq_true rfl) (Nat.le_of_ble_eq_true rfl) dX2_init_15 (fun z_q2 cA H hK2 hP hD hS => ?_)
  have hcA := clsL hE hK2
  subst hcA
  rw [List.append_assoc] at hP hD
  have hP : va_P g classes (ws ++ [(h0, .inr (2, [.null, .ref z_q1, .null, .long 0])), (z_q1, .inl (ts.2.1, 45, .inr (.inl (fun _ => 0)))), (z_q2, .inl (ts.2.1, 45, .inr (.inl (fun _ => 0))))]) H := hP
  have hD : va_D A (ws ++ [(h0, .inr (2, [.null, .ref z_q1, .null, .long 0])), (z_q1, .inl (ts.2.1, 45, .inr (.inl (fun _ => 0)))), (z_q2, .inl (ts.2.1, 45, .inr (.inl (fun _ => 0))))]) := hD
  refine va_put (D := g) (ci := 2) (v := .ref z_q2) (ty := tyX2 2) (C := RX2) (T := TX2) (N := 4) hx hb hts inU2 tyX2 tyX2_ok nmX2 hown hK hP hD hS (ws.length + 0) (ga rfl) rfl 2 (by decide) (hts _ q_227) (fun _ h => h) rfl (by decide +kernel) rfl rfl (Nat.le_of_ble_eq_true rfl) dX2_init_17 (fun H locs hP hD hS => ?_)
  rw [gs] at hP hD
  have hP : va_P g classes (ws ++ [(h0, .inr (2, [.null, .ref z_q1, .ref z_q2, .long 0])), (z_q1, .inl (ts.2.1, 45, .inr (.inl (fun _ => 0)))), (z_q2, .inl (ts.2.1, 45, .inr (.inl (fun _ => 0))))]) H := hP
  have hD : va_D A (ws ++ [(h0, .inr (2, [.null, .ref z_q1, .ref z_q2, .long 0])), (z_q1, .inl (ts.2.1, 45, .inr (.inl (fun _ => 0)))), (z_q2, .inl (ts.2.1, 45, .inr (.inl (fun _ => 0))))]) := hD
  refine lv_aload_n hx hb dX2_init_20 rfl (lv_at hl 0 rfl) ?_
  refine lv_aload_n hx hb dX2_init_21 rfl (lv_at hl 1 rfl) ?_
  refine va_putF (D := g) (ci := 2) (v := .ref b1) (ty := tyX2 0) (C := RX2) (T := TX2) (N := 4) hx hb hts inU2 tyX2 tyX2_ok nmX2 hown hK hP hD hS (ws.length + 0) (ga rfl) rfl 0 (by decide) (hts _ q_224) (fun _ h => h) rfl hin rfl (by decide +kernel) rfl rfl (Nat.le_of_ble_eq_true rfl) dX2_init_22 (fun H locs hP hD hS => ?_)
  rw [gs] at hP hD
  have hP : va_P g classes (ws ++ [(h0, .inr (2, [.ref b1, .ref z_q1, .ref z_q2, .long 0])), (z_q1, .inl (ts.2.1, 45, .inr (.inl (fun _ => 0)))), (z_q2, .inl (ts.2.1, 45, .inr (.inl (fun _ => 0))))]) H := hP
  have hD : va_D A (ws ++ [(h0, .inr (2, [.ref b1, .ref z_q1, .ref z_q2, .long 0])), (z_q1, .inl (ts.2.1, 45, .inr (.inl (fun _ => 0)))), (z_q2, .inl (ts.2.1, 45, .inr (.inl (fun _ => 0))))]) := hD
  refine W.widen (k := 2) (n := 90) (Nat.le_of_ble_eq_true rfl) (Nat.le_of_ble_eq_true rfl) ?_
  exact hQ _ _ _ _ _ ⟨z_q1, z_q2, rfl⟩ dX2_init_25 hP hD hS
