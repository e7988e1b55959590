theorem dX5_init_0 : decode cX5_init 0 = .ok (.aload_n 0, 1) := by decide +kernel
theorem dX5_init_1 : decode cX5_init 1 = .ok (.invokespecial 3, 3) := by decide +kernel
theorem dX5_init_4 : decode cX5_init 4 = .ok (.aload_n 0, 1) := by decide +kernel
theorem dX5_init_5 : decode cX5_init 5 = .ok (.sipush 144, 3) := by decide +kernel
theorem dX5_init_8 : decode cX5_init 8 = .ok (.newarray .int, 2) := by decide +kernel
theorem dX5_init_10 : decode cX5_init 10 = .ok (.putfield 9, 3) := by decide +kernel
theorem dX5_init_13 : decode cX5_init 13 = .ok (.aload_n 0, 1) := by decide +kernel
theorem dX5_init_14 : decode cX5_init 14 = .ok (.bipush 12, 2) := by decide +kernel
theorem dX5_init_16 : decode cX5_init 16 = .ok (.newarray .int, 2) := by decide +kernel
theorem dX5_init_18 : decode cX5_init 18 = .ok (.putfield 15, 3) := by decide +kernel
theorem dX5_init_21 : decode cX5_init 21 = .ok (.aload_n 0, 1) := by decide +kernel
theorem dX5_init_22 : decode cX5_init 22 = .ok (.bipush 12, 2) := by decide +kernel
theorem dX5_init_24 : decode cX5_init 24 = .ok (.newarray .int, 2) := by decide +kernel
theorem dX5_init_26 : decode cX5_init 26 = .ok (.putfield 18, 3) := by decide +kernel
theorem dX5_init_29 : decode cX5_init 29 = .ok (.aload_n 0, 1) := by decide +kernel
theorem dX5_init_30 : decode cX5_init 30 = .ok (.iconst 3, 1) := by decide +kernel
theorem dX5_init_31 : decode cX5_init 31 = .ok (.putfield 21, 3) := by decide +kernel
theorem dX5_init_34 : decode cX5_init 34 = .ok (.aload_n 0, 1) := by decide +kernel
theorem dX5_init_35 : decode cX5_init 35 = .ok (.new 25, 3) := by decide +kernel
theorem dX5_init_38 : decode cX5_init 38 = .ok (.dup, 1) := by decide +kernel
theorem dX5_init_39 : decode cX5_init 39 = .ok (.invokespecial 27, 3) := by decide +kernel
theorem dX5_init_42 : decode cX5_init 42 = .ok (.putfield 28, 3) := by decide +kernel
theorem dX5_init_45 : decode cX5_init 45 = .ok (.aload_n 0, 1) := by decide +kernel
theorem dX5_init_46 : decode cX5_init 46 = .ok (.sipush 1440, 3) := by decide +kernel
theorem dX5_init_49 : decode cX5_init 49 = .ok (.newarray .int, 2) := by decide +kernel
theorem dX5_init_51 : decode cX5_init 51 = .ok (.putfield 32, 3) := by decide +kernel
theorem dX5_init_54 : decode cX5_init 54 = .ok (.aload_n 0, 1) := by decide +kernel
theorem dX5_init_55 : decode cX5_init 55 = .ok (.bipush 120, 2) := by decide +kernel
theorem dX5_init_57 : decode cX5_init 57 = .ok (.newarray .int, 2) := by decide +kernel
theorem dX5_init_59 : decode cX5_init 59 = .ok (.putfield 35, 3) := by decide +kernel
theorem dX5_init_62 : decode cX5_init 62 = .ok (.iconst 0, 1) := by decide +kernel
theorem dX5_init_63 : decode cX5_init 63 = .ok (.istore_n 1, 1) := by decide +kernel
theorem dX5_init_64 : decode cX5_init 64 = .ok (.iload_n 1, 1) := by decide +kernel
theorem dX5_init_65 : decode cX5_init 65 = .ok (.bipush 12, 2) := by decide +kernel
theorem dX5_init_67 : decode cX5_init 67 = .ok (.if_icmp .ge 22, 3) := by decide +kernel
theorem dX5_init_70 : decode cX5_init 70 = .ok (.aload_n 0, 1) := by decide +kernel
theorem dX5_init_71 : decode cX5_init 71 = .ok (.getfield 9, 3) := by decide +kernel
theorem dX5_init_74 : decode cX5_init 74 = .ok (.iload_n 1, 1) := by decide +kernel
theorem dX5_init_75 : decode cX5_init 75 = .ok (.bipush 12, 2) := by decide +kernel
theorem dX5_init_77 : decode cX5_init 77 = .ok (.imul, 1) := by decide +kernel
theorem dX5_init_78 : decode cX5_init 78 = .ok (.iload_n 1, 1) := by decide +kernel
theorem dX5_init_79 : decode cX5_init 79 = .ok (.iadd, 1) := by decide +kernel
theorem dX5_init_80 : decode cX5_init 80 = .ok (.bipush 9, 2) := by decide +kernel
theorem dX5_init_82 : decode cX5_init 82 = .ok (.iastore, 1) := by decide +kernel
theorem dX5_init_83 : decode cX5_init 83 = .ok (.iinc 1 1, 3) := by decide +kernel
theorem dX5_init_86 : decode cX5_init 86 = .ok (.goto (-22), 3) := by decide +kernel
theorem dX5_init_89 : decode cX5_init 89 = .ok (.aload_n 0, 1) := by decide +kernel
theorem dX5_init_90 : decode cX5_init 90 = .ok (.getfield 15, 3) := by decide +kernel
theorem dX5_init_93 : decode cX5_init 93 = .ok (.iconst 3, 1) := by decide +kernel
theorem dX5_init_94 : decode cX5_init 94 = .ok (.invokestatic 38, 3) := by decide +kernel
theorem dX5_init_97 : decode cX5_init 97 = .ok (.aload_n 0, 1) := by decide +kernel
theorem dX5_init_98 : decode cX5_init 98 = .ok (.getfield 18, 3) := by decide +kernel
theorem dX5_init_101 : decode cX5_init 101 = .ok (.bipush 11, 2) := by decide +kernel
theorem dX5_init_103 : decode cX5_init 103 = .ok (.invokestatic 38, 3) := by decide +kernel
theorem dX5_init_106 : decode cX5_init 106 = .ok (.aload_n 0, 1) := by decide +kernel
theorem dX5_init_107 : decode cX5_init 107 = .ok (.getfield 35, 3) := by decide +kernel
theorem dX5_init_110 : decode cX5_init 110 = .ok (.iconst (-1), 1) := by decide +kernel
theorem dX5_init_111 : decode cX5_init 111 = .ok (.invokestatic 38, 3) := by decide +kernel
theorem dX5_init_114 : decode cX5_init 114 = .ok (.return_, 1) := by decide +kernel
theorem mi_X5_init : MI yX5_init cX5_init 2 0 := ⟨rfl, q_90, q_59, q_91, by decide +kernel, by decide +kernel, by decide +kernel⟩
set_option maxHeartbeats 8000000 in
set_option maxRecDepth 100000 in
theorem c_X5_init {l : Launch} {g : va_G} {ts : ClassId × ClassId × ClassId} {ws : va_W} {h0 : Nat} : ConG l g ts yX5_init cX5_init 2 ({ frames := 2, cells := 9, slots := 1995, locals := 40 }) 9 1995 (ws ++ [(h0, .inr (5, [.null, .null, .null, .int 0, .null, .null, .null, .null]))]) [.ref h0] (fun w => ∃ z_q1 z_q2 z_q3 z_q4 z_q5 z_q6 z_q7 z_q8 z_q9 : Nat, w = ws ++ [(h0, .inr (5, [.ref z_q1, .ref z_q2, .ref z_q3, .int 3, .null, .ref z_q4, .ref z_q8, .ref z_q9])), (z_q1, .inl (ts.1, 144, .inl (upd (upd (upd (upd (upd (upd (upd (upd (upd (upd (upd (upd (fun _ => 0) 0 9) 13 9) 26 9) 39 9) 52 9) 65 9) 78 9) 91 9) 104 9) 117 9) 130 9) 143 9))), (z_q2, .inl (ts.1, 12, .inl (fillA (fun _ => 0) 12 3))), (z_q3, .inl (ts.1, 12, .inl (fillA (fun _ => 0) 12 11))), (z_q4, .inr (4, [.ref z_q5, .ref z_q6, .ref z_q7, .int 0])), (z_q5, .inl (ts.1, 128, .inl (fun _ => 0))), (z_q6, .inl (ts.1, 129, .inl (fun _ => 0))), (z_q7, .inl (ts.1, 6, .inl (fun _ => 0))), (z_q8, .inl (ts.1, 1440, .inl (fun _ => 0))), (z_q9, .inl (ts.1, 120, .inl (fillA (fun _ => 0) 120 (-1))))]) := by
  refine ConG_mk rfl rfl (by decide) rfl (Nat.le_of_ble_eq_true rfl) ?_
  intro p e s m below meth c A Q ls C hin hO hQ hP hD hS hl
  have C : FX p s m _ meth c RX5 cX5_init 2 g ts A := C
  have hx := C.1
  have hb := C.2.1
  have hown := C.2.2.2.1
  have hts := C.2.2.2.2.1
  have hA := C.2.2.2.2.2.1
  have hE := C.2.2.2.2.2.2
  have hK := hE.1
  have hl : lv_has ls 2 [(0, .ref h0)] := hl
  refine lv_aload_n hx hb dX5_init_0 rfl (lv_at hl 0 rfl) ?_
  refine W.objInit hx hb hown (hts _ q_92) (hts _ q_85) (hts _ q_86) rfl (by rw [C.2.2.1]; exact hl.1) rfl dX5_init_1 (Nat.le_of_ble_eq_true rfl) (Nat.le_of_ble_eq_true rfl) ?_
  refine W.eq (g2 := F0 m 4 ls []) rfl ?_
  refine lv_aload_n hx hb dX5_init_4 rfl (lv_at hl 0 rfl) ?_
  refine lv_sipush (v := 144) hx hb dX5_init_5 (by decide) ?_
  refine va_newa (D := g) (atype := .int) (a0 := (144, .inl (fun _ => 0))) hx hb (hts _ q_arrI) rfl hK hP hD hS hA (fun _ => rfl) (by decide) rfl (by decide) (Nat.le_of_ble_eq_true rfl) (Nat.le_of_ble_eq_true rfl) dX5_init_8 (fun z_q1 cA H hK2 hP hD hS => ?_)
  have hcA := clsI hE hK2
  subst hcA
  rw [List.append_assoc] at hP hD
  have hP : va_P g classes (ws ++ [(h0, .inr (5, [.null, .null, .null, .int 0, .null, .null, .null, .null])), (z_q1, .inl (ts.1, 144, .inl (fun _ => 0)))]) H := hP
  have hD : va_D A (ws ++ [(h0, .inr (5, [.null, .null, .null, .int 0, .null, .null, .null, .null])), (z_q1, .inl (ts.1, 144, .inl (fun _ => 0)))]) := hD
  refine va_putF (D := g) (ci := 5) (v := .ref z_q1) (ty := tyX5 0) (C := RX5) (T := TX5) (N := 8) hx hb hts inU5 tyX5 tyX5_ok nmX5 hown hK hP hD hS (ws.length + 0) (ga rfl) rfl 0 (by decide) (hts _ q_116) (fun _ h => h) rfl hin rfl (by decide +kernel) rfl rfl (Nat.le_of_ble_eq_true rfl) dX5_init_10 (fun H locs hP hD hS => ?_)
  rw [gs] at hP hD
  have hP : va_P g classes (ws ++ [(h0, .inr (5, [.ref z_q1, .null, .null, .int 0, .null, .null, .null, .null])), (z_q1, .inl (ts.1, 144, .inl (fun _ => 0)))]) H := hP
  have hD : va_D A (ws ++ [(h0, .inr (5, [.ref z_q1, .null, .null, .int 0, .null, .null, .null, .null])), (z_q1, .inl (ts.1, 144, .inl (fun _ => 0)))]) := hD
  refine lv_aload_n hx hb dX5_init_13 rfl (lv_at hl 0 rfl) ?_
  refine lv_bipush (v := 12) hx hb dX5_init_14 (by decide) ?_
  refine va_newa (D := g) (atype := .int) (a0 := (12, .inl (fun _ => 0))) hx hb (hts _ q_arrI) rfl hK hP hD hS hA (fun _ => rfl) (by decide) rfl (by decide) (Nat.le_of_ble_eq_true rfl) (Nat.le_of_ble_eq_true rfl) dX5_init_16 (fun z_q2 cA H hK2 hP hD hS => ?_)
  have hcA := clsI hE hK2
  subst hcA
  rw [List.append_assoc] at hP hD
  have hP : va_P g classes (ws ++ [(h0, .inr (5, [.ref z_q1, .null, .null, .int 0, .null, .null, .null, .null])), (z_q1, .inl (ts.1, 144, .inl (fun _ => 0))), (z_q2, .inl (ts.1, 12, .inl (fun _ => 0)))]) H := hP
  have hD : va_D A (ws ++ [(h0, .inr (5, [.ref z_q1, .null, .null, .int 0, .null, .null, .null, .null])), (z_q1, .inl (ts.1, 144, .inl (fun _ => 0))), (z_q2, .inl (ts.1, 12, .inl (fun _ => 0)))]) := hD
  refine va_putF (D := g) (ci := 5) (v := .ref z_q2) (ty := tyX5 1) (C := RX5) (T := TX5) (N := 8) hx hb hts inU5 tyX5 tyX5_ok nmX5 hown hK hP hD hS (ws.length + 0) (ga rfl) rfl 1 (by decide) (hts _ q_118) (fun _ h => h) rfl hin rfl (by decide +kernel) rfl rfl (Nat.le_of_ble_eq_true rfl) dX5_init_18 (fun H locs hP hD hS => ?_)
  rw [gs] at hP hD
  have hP : va_P g classes (ws ++ [(h0, .inr (5, [.ref z_q1, .ref z_q2, .null, .int 0, .null, .null, .null, .null])), (z_q1, .inl (ts.1, 144, .inl (fun _ => 0))), (z_q2, .inl (ts.1, 12, .inl (fun _ => 0)))]) H := hP
  have hD : va_D A (ws ++ [(h0, .inr (5, [.ref z_q1, .ref z_q2, .null, .int 0, .null, .null, .null, .null])), (z_q1, .inl (ts.1, 144, .inl (fun _ => 0))), (z_q2, .inl (ts.1, 12, .inl (fun _ => 0)))]) := hD
  refine lv_aload_n hx hb dX5_init_21 rfl (lv_at hl 0 rfl) ?_
  refine lv_bipush (v := 12) hx hb dX5_init_22 (by decide) ?_
  refine va_newa (D := g) (atype := .int) (a0 := (12, .inl (fun _ => 0))) hx hb (hts _ q_arrI) rfl hK hP hD hS hA (fun _ => rfl) (by decide) rfl (by decide) (Nat.le_of_ble_eq_true rfl) (Nat.le_of_ble_eq_true rfl) dX5_init_24 (fun z_q3 cA H hK2 hP hD hS => ?_)
  have hcA := clsI hE hK2
  subst hcA
  rw [List.append_assoc] at hP hD
  have hP : va_P g classes (ws ++ [(h0, .inr (5, [.ref z_q1, .ref z_q2, .null, .int 0, .null, .null, .null, .null])), (z_q1, .inl (ts.1, 144, .inl (fun _ => 0))), (z_q2, .inl (ts.1, 12, .inl (fun _ => 0))), (z_q3, .inl (ts.1, 12, .inl (fun _ => 0)))]) H := hP
  have hD : va_D A (ws ++ [(h0, .inr (5, [.ref z_q1, .ref z_q2, .null, .int 0, .null, .null, .null, .null])), (z_q1, .inl (ts.1, 144, .inl (fun _ => 0))), (z_q2, .inl (ts.1, 12, .inl (fun _ => 0))), (z_q3, .inl (ts.1, 12, .inl (fun _ => 0)))]) := hD
  refine va_putF (D := g) (ci := 5) (v := .ref z_q3) (ty := tyX5 2) (C := RX5) (T := TX5) (N := 8) hx hb hts inU5 tyX5 tyX5_ok nmX5 hown hK hP hD hS (ws.length + 0) (ga rfl) rfl 2 (by decide) (hts _ q_121) (fun _ h => h) rfl hin rfl (by decide +kernel) rfl rfl (Nat.le_of_ble_eq_true rfl) dX5_init_26 (fun H locs hP hD hS => ?_)
  rw [gs] at hP hD
  have hP : va_P g classes (ws ++ [(h0, .inr (5, [.ref z_q1, .ref z_q2, .ref z_q3, .int 0, .null, .null, .null, .null])), (z_q1, .inl (ts.1, 144, .inl (fun _ => 0))), (z_q2, .inl (ts.1, 12, .inl (fun _ => 0))), (z_q3, .inl (ts.1, 12, .inl (fun _ => 0)))]) H := hP
  have hD : va_D A (ws ++ [(h0, .inr (5, [.ref z_q1, .ref z_q2, .ref z_q3, .int 0, .null, .null, .null, .null])), (z_q1, .inl (ts.1, 144, .inl (fun _ => 0))), (z_q2, .inl (ts.1, 12, .inl (fun _ => 0))), (z_q3, .inl (ts.1, 12, .inl (fun _ => 0)))]) := hD
  refine lv_aload_n hx hb dX5_init_29 rfl (lv_at hl 0 rfl) ?_
  refine lv_iconst (v := 3) hx hb dX5_init_30 (by decide) ?_
  refine va_put (D := g) (ci := 5) (v := .int 3) (ty := .int) (C := RX5) (T := TX5) (N := 8) hx hb hts inU5 tyX5 tyX5_ok nmX5 hown hK hP hD hS (ws.length + 0) (ga rfl) rfl 3 (by decide) (hts _ q_125) (fun _ h => h) rfl (by decide +kernel) rfl rfl (Nat.le_of_ble_eq_true rfl) dX5_init_31 (fun H locs hP hD hS => ?_)
  rw [gs] at hP hD
  have hP : va_P g classes (ws ++ [(h0, .inr (5, [.ref z_q1, .ref z_q2, .ref z_q3, .int 3, .null, .null, .null, .null])), (z_q1, .inl (ts.1, 144, .inl (fun _ => 0))), (z_q2, .inl (ts.1, 12, .inl (fun _ => 0))), (z_q3, .inl (ts.1, 12, .inl (fun _ => 0)))]) H := hP
  have hD : va_D A (ws ++ [(h0, .inr (5, [.ref z_q1, .ref z_q2, .ref z_q3, .int 3, .null, .null, .null, .null])), (z_q1, .inl (ts.1, 144, .inl (fun _ => 0))), (z_q2, .inl (ts.1, 12, .inl (fun _ => 0))), (z_q3, .inl (ts.1, 12, .inl (fun _ => 0)))]) := hD
  refine lv_aload_n hx hb dX5_init_34 rfl (lv_at hl 0 rfl) ?_
  refine va_new (ci := 4) (fs := [.null, .null, .null, .int 0]) (C := RX4) (T := TX4) (N := 4) hx hb hts inU4 tyX4 tyX4_ok hown (hts _ q_93) (hts _ q_94) (hts _ q_60) hK hP hD hS hA rfl (fun j hj => by rcases (show j = 0 ∨ j = 1 ∨ j = 2 ∨ j = 3 by omega) with rfl | rfl | rfl | rfl <;> rfl) (Nat.le_of_ble_eq_true rfl) (Nat.le_of_ble_eq_true rfl) dX5_init_35 (fun z_q4 H hP hD hS => ?_)
  rw [List.append_assoc] at hP hD
  have hP : va_P g classes (ws ++ [(h0, .inr (5, [.ref z_q1, .ref z_q2, .ref z_q3, .int 3, .null, .null, .null, .null])), (z_q1, .inl (ts.1, 144, .inl (fun _ => 0))), (z_q2, .inl (ts.1, 12, .inl (fun _ => 0))), (z_q3, .inl (ts.1, 12, .inl (fun _ => 0))), (z_q4, .inr (4, [.null, .null, .null, .int 0]))]) H := hP
  have hD : va_D A (ws ++ [(h0, .inr (5, [.ref z_q1, .ref z_q2, .ref z_q3, .int 3, .null, .null, .null, .null])), (z_q1, .inl (ts.1, 144, .inl (fun _ => 0))), (z_q2, .inl (ts.1, 12, .inl (fun _ => 0))), (z_q3, .inl (ts.1, 12, .inl (fun _ => 0))), (z_q4, .inr (4, [.null, .null, .null, .int 0]))]) := hD
  refine lv_dup hx hb dX5_init_38 rfl ?_
  have hP : va_P g classes ((ws ++ [(h0, .inr (5, [.ref z_q1, .ref z_q2, .ref z_q3, .int 3, .null, .null, .null, .null])), (z_q1, .inl (ts.1, 144, .inl (fun _ => 0))), (z_q2, .inl (ts.1, 12, .inl (fun _ => 0))), (z_q3, .inl (ts.1, 12, .inl (fun _ => 0)))]) ++ [(z_q4, .inr (4, [.null, .null, .null, .int 0]))]) H := by rw [List.append_assoc]; exact hP
  have hD : va_D A ((ws ++ [(h0, .inr (5, [.ref z_q1, .ref z_q2, .ref z_q3, .int 3, .null, .null, .null, .null])), (z_q1, .inl (ts.1, 144, .inl (fun _ => 0))), (z_q2, .inl (ts.1, 12, .inl (fun _ => 0))), (z_q3, .inl (ts.1, 12, .inl (fun _ => 0)))]) ++ [(z_q4, .inr (4, [.null, .null, .null, .int 0]))]) := by rw [List.append_assoc]; exact hD
  refine gIN (host := RX11) [.ref z_q4, .ref h0] C hO hP hD hS (c_X4_init) mi_X4_init (by decide +kernel) dX5_init_39 ⟨Nat.le_of_ble_eq_true rfl, Nat.le_of_ble_eq_true rfl⟩ ⟨Nat.le_of_ble_eq_true rfl, Nat.le_of_ble_eq_true rfl⟩ rfl rfl (Nat.le_of_ble_eq_true rfl) hl.1 (fun w H locs hw hP hD hS => ?_)
  obtain ⟨z_q5, z_q6, z_q7, rfl⟩ := hw
  rw [List.append_assoc] at hP hD
  have hP : va_P g classes (ws ++ [(h0, .inr (5, [.ref z_q1, .ref z_q2, .ref z_q3, .int 3, .null, .null, .null, .null])), (z_q1, .inl (ts.1, 144, .inl (fun _ => 0))), (z_q2, .inl (ts.1, 12, .inl (fun _ => 0))), (z_q3, .inl (ts.1, 12, .inl (fun _ => 0))), (z_q4, .inr (4, [.ref z_q5, .ref z_q6, .ref z_q7, .int 0])), (z_q5, .inl (ts.1, 128, .inl (fun _ => 0))), (z_q6, .inl (ts.1, 129, .inl (fun _ => 0))), (z_q7, .inl (ts.1, 6, .inl (fun _ => 0)))]) H := hP
  have hD : va_D A (ws ++ [(h0, .inr (5, [.ref z_q1, .ref z_q2, .ref z_q3, .int 3, .null, .null, .null, .null])), (z_q1, .inl (ts.1, 144, .inl (fun _ => 0))), (z_q2, .inl (ts.1, 12, .inl (fun _ => 0))), (z_q3, .inl (ts.1, 12, .inl (fun _ => 0))), (z_q4, .inr (4, [.ref z_q5, .ref z_q6, .ref z_q7, .int 0])), (z_q5, .inl (ts.1, 128, .inl (fun _ => 0))), (z_q6, .inl (ts.1, 129, .inl (fun _ => 0))), (z_q7, .inl (ts.1, 6, .inl (fun _ => 0)))]) := hD
  refine va_put (D := g) (ci := 5) (v := .ref z_q4) (ty := tyX5 5) (C := RX5) (T := TX5) (N := 8) hx hb hts inU5 tyX5 tyX5_ok nmX5 hown hK hP hD hS (ws.length + 0) (ga rfl) rfl 5 (by decide) (hts _ q_128) (fun _ h => h) rfl (by decide +kernel) rfl rfl (Nat.le_of_ble_eq_true rfl) dX5_init_42 (fun H locs hP hD hS => ?_)
  rw [gs] at hP hD
  have hP : va_P g classes (ws ++ [(h0, .inr (5, [.ref z_q1, .ref z_q2, .ref z_q3, .int 3, .null, .ref z_q4, .null, .null])), (z_q1, .inl (ts.1, 144, .inl (fun _ => 0))), (z_q2, .inl (ts.1, 12, .inl (fun _ => 0))), (z_q3, .inl (ts.1, 12, .inl (fun _ => 0))), (z_q4, .inr (4, [.ref z_q5, .ref z_q6, .ref z_q7, .int 0])), (z_q5, .inl (ts.1, 128, .inl (fun _ => 0))), (z_q6, .inl (ts.1, 129, .inl (fun _ => 0))), (z_q7, .inl (ts.1, 6, .inl (fun _ => 0)))]) H := hP
  have hD : va_D A (ws ++ [(h0, .inr (5, [.ref z_q1, .ref z_q2, .ref z_q3, .int 3, .null, .ref z_q4, .null, .null])), (z_q1, .inl (ts.1, 144, .inl (fun _ => 0))), (z_q2, .inl (ts.1, 12, .inl (fun _ => 0))), (z_q3, .inl (ts.1, 12, .inl (fun _ => 0))), (z_q4, .inr (4, [.ref z_q5, .ref z_q6, .ref z_q7, .int 0])), (z_q5, .inl (ts.1, 128, .inl (fun _ => 0))), (z_q6, .inl (ts.1, 129, .inl (fun _ => 0))), (z_q7, .inl (ts.1, 6, .inl (fun _ => 0)))]) := hD
  refine lv_aload_n hx hb dX5_init_45 rfl (lv_at hl 0 rfl) ?_
  refine lv_sipush (v := 1440) hx hb dX5_init_46 (by decide) ?_
  refine va_newa (D := g) (atype := .int) (a0 := (1440, .inl (fun _ => 0))) hx hb (hts _ q_arrI) rfl hK hP hD hS hA (fun _ => rfl) (by decide) rfl (by decide) (Nat.le_of_ble_eq_true rfl) (Nat.le_of_ble_eq_true rfl) dX5_init_49 (fun z_q8 cA H hK2 hP hD hS => ?_)
  have hcA := clsI hE hK2
  subst hcA
  rw [List.append_assoc] at hP hD
  have hP : va_P g classes (ws ++ [(h0, .inr (5, [.ref z_q1, .ref z_q2, .ref z_q3, .int 3, .null, .ref z_q4, .null, .null])), (z_q1, .inl (ts.1, 144, .inl (fun _ => 0))), (z_q2, .inl (ts.1, 12, .inl (fun _ => 0))), (z_q3, .inl (ts.1, 12, .inl (fun _ => 0))), (z_q4, .inr (4, [.ref z_q5, .ref z_q6, .ref z_q7, .int 0])), (z_q5, .inl (ts.1, 128, .inl (fun _ => 0))), (z_q6, .inl (ts.1, 129, .inl (fun _ => 0))), (z_q7, .inl (ts.1, 6, .inl (fun _ => 0))), (z_q8, .inl (ts.1, 1440, .inl (fun _ => 0)))]) H := hP
  have hD : va_D A (ws ++ [(h0, .inr (5, [.ref z_q1, .ref z_q2, .ref z_q3, .int 3, .null, .ref z_q4, .null, .null])), (z_q1, .inl (ts.1, 144, .inl (fun _ => 0))), (z_q2, .inl (ts.1, 12, .inl (fun _ => 0))), (z_q3, .inl (ts.1, 12, .inl (fun _ => 0))), (z_q4, .inr (4, [.ref z_q5, .ref z_q6, .ref z_q7, .int 0])), (z_q5, .inl (ts.1, 128, .inl (fun _ => 0))), (z_q6, .inl (ts.1, 129, .inl (fun _ => 0))), (z_q7, .inl (ts.1, 6, .inl (fun _ => 0))), (z_q8, .inl (ts.1, 1440, .inl (fun _ => 0)))]) := hD
  refine va_putF (D := g) (ci := 5) (v := .ref z_q8) (ty := tyX5 6) (C := RX5) (T := TX5) (N := 8) hx hb hts inU5 tyX5 tyX5_ok nmX5 hown hK hP hD hS (ws.length + 0) (ga rfl) rfl 6 (by decide) (hts _ q_130) (fun _ h => h) rfl hin rfl (by decide +kernel) rfl rfl (Nat.le_of_ble_eq_true rfl) dX5_init_51 (fun H locs hP hD hS => ?_)
  rw [gs] at hP hD
  have hP : va_P g classes (ws ++ [(h0, .inr (5, [.ref z_q1, .ref z_q2, .ref z_q3, .int 3, .null, .ref z_q4, .ref z_q8, .null])), (z_q1, .inl (ts.1, 144, .inl (fun _ => 0))), (z_q2, .inl (ts.1, 12, .inl (fun _ => 0))), (z_q3, .inl (ts.1, 12, .inl (fun _ => 0))), (z_q4, .inr (4, [.ref z_q5, .ref z_q6, .ref z_q7, .int 0])), (z_q5, .inl (ts.1, 128, .inl (fun _ => 0))), (z_q6, .inl (ts.1, 129, .inl (fun _ => 0))), (z_q7, .inl (ts.1, 6, .inl (fun _ => 0))), (z_q8, .inl (ts.1, 1440, .inl (fun _ => 0)))]) H := hP
  have hD : va_D A (ws ++ [(h0, .inr (5, [.ref z_q1, .ref z_q2, .ref z_q3, .int 3, .null, .ref z_q4, .ref z_q8, .null])), (z_q1, .inl (ts.1, 144, .inl (fun _ => 0))), (z_q2, .inl (ts.1, 12, .inl (fun _ => 0))), (z_q3, .inl (ts.1, 12, .inl (fun _ => 0))), (z_q4, .inr (4, [.ref z_q5, .ref z_q6, .ref z_q7, .int 0])), (z_q5, .inl (ts.1, 128, .inl (fun _ => 0))), (z_q6, .inl (ts.1, 129, .inl (fun _ => 0))), (z_q7, .inl (ts.1, 6, .inl (fun _ => 0))), (z_q8, .inl (ts.1, 1440, .inl (fun _ => 0)))]) := hD
  refine lv_aload_n hx hb dX5_init_54 rfl (lv_at hl 0 rfl) ?_
  refine lv_bipush (v := 120) hx hb dX5_init_55 (by decide) ?_
  refine va_newa (D := g) (atype := .int) (a0 := (120, .inl (fun _ => 0))) hx hb (hts _ q_arrI) rfl hK hP hD hS hA (fun _ => rfl) (by decide) rfl (by decide) (Nat.le_of_ble_eq_true rfl) (Nat.le_of_ble_eq_true rfl) dX5_init_57 (fun z_q9 cA H hK2 hP hD hS => ?_)
  have hcA := clsI hE hK2
  subst hcA
  rw [List.append_assoc] at hP hD
  have hP : va_P g classes (ws ++ [(h0, .inr (5, [.ref z_q1, .ref z_q2, .ref z_q3, .int 3, .null, .ref z_q4, .ref z_q8, .null])), (z_q1, .inl (ts.1, 144, .inl (fun _ => 0))), (z_q2, .inl (ts.1, 12, .inl (fun _ => 0))), (z_q3, .inl (ts.1, 12, .inl (fun _ => 0))), (z_q4, .inr (4, [.ref z_q5, .ref z_q6, .ref z_q7, .int 0])), (z_q5, .inl (ts.1, 128, .inl (fun _ => 0))), (z_q6, .inl (ts.1, 129, .inl (fun _ => 0))), (z_q7, .inl (ts.1, 6, .inl (fun _ => 0))), (z_q8, .inl (ts.1, 1440, .inl (fun _ => 0))), (z_q9, .inl (ts.1, 120, .inl (fun _ => 0)))]) H := hP
  have hD : va_D A (ws ++ [(h0, .inr (5, [.ref z_q1, .ref z_q2, .ref z_q3, .int 3, .null, .ref z_q4, .ref z_q8, .null])), (z_q1, .inl (ts.1, 144, .inl (fun _ => 0))), (z_q2, .inl (ts.1, 12, .inl (fun _ => 0))), (z_q3, .inl (ts.1, 12, .inl (fun _ => 0))), (z_q4, .inr (4, [.ref z_q5, .ref z_q6, .ref z_q7, .int 0])), (z_q5, .inl (ts.1, 128, .inl (fun _ => 0))), (z_q6, .inl (ts.1, 129, .inl (fun _ => 0))), (z_q7, .inl (ts.1, 6, .inl (fun _ => 0))), (z_q8, .inl (ts.1, 1440, .inl (fun _ => 0))), (z_q9, .inl (ts.1, 120, .inl (fun _ => 0)))]) := hD
  refine va_putF (D := g) (ci := 5) (v := .ref z_q9) (ty := tyX5 7) (C := RX5) (T := TX5) (N := 8) hx hb hts inU5 tyX5 tyX5_ok nmX5 hown hK hP hD hS (ws.length + 0) (ga rfl) rfl 7 (by decide) (hts _ q_131) (fun _ h => h) rfl hin rfl (by decide +kernel) rfl rfl (Nat.le_of_ble_eq_true rfl) dX5_init_59 (fun H locs hP hD hS => ?_)
  rw [gs] at hP hD
  have hP : va_P g classes (ws ++ [(h0, .inr (5, [.ref z_q1, .ref z_q2, .ref z_q3, .int 3, .null, .ref z_q4, .ref z_q8, .ref z_q9])), (z_q1, .inl (ts.1, 144, .inl (fun _ => 0))), (z_q2, .inl (ts.1, 12, .inl (fun _ => 0))), (z_q3, .inl (ts.1, 12, .inl (fun _ => 0))), (z_q4, .inr (4, [.ref z_q5, .ref z_q6, .ref z_q7, .int 0])), (z_q5, .inl (ts.1, 128, .inl (fun _ => 0))), (z_q6, .inl (ts.1, 129, .inl (fun _ => 0))), (z_q7, .inl (ts.1, 6, .inl (fun _ => 0))), (z_q8, .inl (ts.1, 1440, .inl (fun _ => 0))), (z_q9, .inl (ts.1, 120, .inl (fun _ => 0)))]) H := hP
  have hD : va_D A (ws ++ [(h0, .inr (5, [.ref z_q1, .ref z_q2, .ref z_q3, .int 3, .null, .ref z_q4, .ref z_q8, .ref z_q9])), (z_q1, .inl (ts.1, 144, .inl (fun _ => 0))), (z_q2, .inl (ts.1, 12, .inl (fun _ => 0))), (z_q3, .inl (ts.1, 12, .inl (fun _ => 0))), (z_q4, .inr (4, [.ref z_q5, .ref z_q6, .ref z_q7, .int 0])), (z_q5, .inl (ts.1, 128, .inl (fun _ => 0))), (z_q6, .inl (ts.1, 129, .inl (fun _ => 0))), (z_q7, .inl (ts.1, 6, .inl (fun _ => 0))), (z_q8, .inl (ts.1, 1440, .inl (fun _ => 0))), (z_q9, .inl (ts.1, 120, .inl (fun _ => 0)))]) := hD
  refine lv_iconst (v := 0) hx hb dX5_init_62 (by decide) ?_
  refine lv_istore_n (lv' := [(1, .int 0), (0, .ref h0)]) hx hb dX5_init_63 rfl hl (by decide) rfl (fun ls hl => ?_)
  refine lv_iload_n hx hb dX5_init_64 rfl (lv_at hl 0 rfl) ?_
  refine lv_bipush (v := 12) hx hb dX5_init_65 (by decide) ?_
  refine lv_icmp_ge (tgt := 89) hx hb dX5_init_67 (by decide) (fun c1 => absurd c1 (by decide)) (fun c1 => ?_)
  refine lv_aload_n hx hb dX5_init_70 rfl (lv_at hl 1 rfl) ?_
  refine va_get (D := g) (ci := 5) (v := .ref z_q1) (C := RX5) (T := TX5) (N := 8) hx hb hts inU5 hown hK hP (ws.length + 0) (ga rfl) rfl 0 (by decide) (hts _ q_116) (fun _ h => h) rfl dX5_init_71 ?_
  refine lv_iload_n hx hb dX5_init_74 rfl (lv_at hl 0 rfl) ?_
  refine lv_bipush (v := 12) hx hb dX5_init_75 (by decide) ?_
  refine lv_imul hx hb dX5_init_77 ?_
  refine lv_topi (fun w ew => ?_)
  have ew2 : w = 0 := by rw [ew]; decide
  subst ew2
  refine lv_iload_n hx hb dX5_init_78 rfl (lv_at hl 0 rfl) ?_
  refine lv_iadd hx hb dX5_init_79 ?_
  refine lv_topi (fun w ew => ?_)
  have ew2 : w = 0 := by rw [ew]; decide
  subst ew2
  refine lv_bipush (v := 9) hx hb dX5_init_80 (by decide) ?_
  refine va_iast (D := g) hx hb hK hP hD hS (ws.length + 1) 0 (ga rfl) rfl (by unfold vp_in; decide) dX5_init_82 (fun H locs hP hD hS => ?_)
  rw [gs] at hP hD
  have hP : va_P g classes (ws ++ [(h0, .inr (5, [.ref z_q1, .ref z_q2, .ref z_q3, .int 3, .null, .ref z_q4, .ref z_q8, .ref z_q9])), (z_q1, .inl (ts.1, 144, .inl (upd (fun _ => 0) 0 9))), (z_q2, .inl (ts.1, 12, .inl (fun _ => 0))), (z_q3, .inl (ts.1, 12, .inl (fun _ => 0))), (z_q4, .inr (4, [.ref z_q5, .ref z_q6, .ref z_q7, .int 0])), (z_q5, .inl (ts.1, 128, .inl (fun _ => 0))), (z_q6, .inl (ts.1, 129, .inl (fun _ => 0))), (z_q7, .inl (ts.1, 6, .inl (fun _ => 0))), (z_q8, .inl (ts.1, 1440, .inl (fun _ => 0))), (z_q9, .inl (ts.1, 120, .inl (fun _ => 0)))]) H := hP
  have hD : va_D A (ws ++ [(h0, .inr (5, [.ref z_q1, .ref z_q2, .ref z_q3, .int 3, .null, .ref z_q4, .ref z_q8, .ref z_q9])), (z_q1, .inl (ts.1, 144, .inl (upd (fun _ => 0) 0 9))), (z_q2, .inl (ts.1, 12, .inl (fun _ => 0))), (z_q3, .inl (ts.1, 12, .inl (fun _ => 0))), (z_q4, .inr (4, [.ref z_q5, .ref z_q6, .ref z_q7, .int 0])), (z_q5, .inl (ts.1, 128, .inl (fun _ => 0))), (z_q6, .inl (ts.1, 129, .inl (fun _ => 0))), (z_q7, .inl (ts.1, 6, .inl (fun _ => 0))), (z_q8, .inl (ts.1, 1440, .inl (fun _ => 0))), (z_q9, .inl (ts.1, 120, .inl (fun _ => 0)))]) := hD
  refine lv_iinc (v := 1) (lv' := [(1, .int 1), (0, .ref h0)]) hx hb dX5_init_83 hl (k := 0) rfl (by decide) (by decide) rfl (fun ls hl => ?_)
  refine lv_goto (tgt := 64) hx hb dX5_init_86 (by decide) ?_
  refine lv_iload_n hx hb dX5_init_64 rfl (lv_at hl 0 rfl) ?_
  refine lv_bipush (v := 12) hx hb dX5_init_65 (by decide) ?_
  refine lv_icmp_ge (tgt := 89) hx hb dX5_init_67 (by decide) (fun c1 => absurd c1 (by decide)) (fun c1 => ?_)
  refine lv_aload_n hx hb dX5_init_70 rfl (lv_at hl 1 rfl) ?_
  refine va_get (D := g) (ci := 5) (v := .ref z_q1) (C := RX5) (T := TX5) (N := 8) hx hb hts inU5 hown hK hP (ws.length + 0) (ga rfl) rfl 0 (by decide) (hts _ q_116) (fun _ h => h) rfl dX5_init_71 ?_
  refine lv_iload_n hx hb dX5_init_74 rfl (lv_at hl 0 rfl) ?_
  refine lv_bipush (v := 12) hx hb dX5_init_75 (by decide) ?_
  refine lv_imul hx hb dX5_init_77 ?_
  refine lv_topi (fun w ew => ?_)
  have ew2 : w = 12 := by rw [ew]; decide
  subst ew2
  refine lv_iload_n hx hb dX5_init_78 rfl (lv_at hl 0 rfl) ?_
  refine lv_iadd hx hb dX5_init_79 ?_
  refine lv_topi (fun w ew => ?_)
  have ew2 : w = 13 := by rw [ew]; decide
  subst ew2
  refine lv_bipush (v := 9) hx hb dX5_init_80 (by decide) ?_
  refine va_iast (D := g) hx hb hK hP hD hS (ws.length + 1) 0 (ga rfl) rfl (by unfold vp_in; decide) dX5_init_82 (fun H locs hP hD hS => ?_)
  rw [gs] at hP hD
  have hP : va_P g classes (ws ++ [(h0, .inr (5, [.ref z_q1, .ref z_q2, .ref z_q3, .int 3, .null, .ref z_q4, .ref z_q8, .ref z_q9])), (z_q1, .inl (ts.1, 144, .inl (upd (upd (fun _ => 0) 0 9) 13 9))), (z_q2, .inl (ts.1, 12, .inl (fun _ => 0))), (z_q3, .inl (ts.1, 12, .inl (fun _ => 0))), (z_q4, .inr (4, [.ref z_q5, .ref z_q6, .ref z_q7, .int 0])), (z_q5, .inl (ts.1, 128, .inl (fun _ => 0))), (z_q6, .inl (ts.1, 129, .inl (fun _ => 0))), (z_q7, .inl (ts.1, 6, .inl (fun _ => 0))), (z_q8, .inl (ts.1, 1440, .inl (fun _ => 0))), (z_q9, .inl (ts.1, 120, .inl (fun _ => 0)))]) H := hP
  have hD : va_D A (ws ++ [(h0, .inr (5, [.ref z_q1, .ref z_q2, .ref z_q3, .int 3, .null, .ref z_q4, .ref z_q8, .ref z_q9])), (z_q1, .inl (ts.1, 144, .inl (upd (upd (fun _ => 0) 0 9) 13 9))), (z_q2, .inl (ts.1, 12, .inl (fun _ => 0))), (z_q3, .inl (ts.1, 12, .inl (fun _ => 0))), (z_q4, .inr (4, [.ref z_q5, .ref z_q6, .ref z_q7, .int 0])), (z_q5, .inl (ts.1, 128, .inl (fun _ => 0))), (z_q6, .inl (ts.1, 129, .inl (fun _ => 0))), (z_q7, .inl (ts.1, 6, .inl (fun _ => 0))), (z_q8, .inl (ts.1, 1440, .inl (fun _ => 0))), (z_q9, .inl (ts.1, 120, .inl (fun _ => 0)))]) := hD
  refine lv_iinc (v := 2) (lv' := [(1, .int 2), (0, .ref h0)]) hx hb dX5_init_83 hl (k := 0) rfl (by decide) (by decide) rfl (fun ls hl => ?_)
  refine lv_goto (tgt := 64) hx hb dX5_init_86 (by decide) ?_
  refine lv_iload_n hx hb dX5_init_64 rfl (lv_at hl 0 rfl) ?_
  refine lv_bipush (v := 12) hx hb dX5_init_65 (by decide) ?_
  refine lv_icmp_ge (tgt := 89) hx hb dX5_init_67 (by decide) (fun c1 => absurd c1 (by decide)) (fun c1 => ?_)
  refine lv_aload_n hx hb dX5_init_70 rfl (lv_at hl 1 rfl) ?_
  refine va_get (D := g) (ci := 5) (v := .ref z_q1) (C := RX5) (T := TX5) (N := 8) hx hb hts inU5 hown hK hP (ws.length + 0) (ga rfl) rfl 0 (by decide) (hts _ q_116) (fun _ h => h) rfl dX5_init_71 ?_
  refine lv_iload_n hx hb dX5_init_74 rfl (lv_at hl 0 rfl) ?_
  refine lv_bipush (v := 12) hx hb dX5_init_75 (by decide) ?_
  refine lv_imul hx hb dX5_init_77 ?_
  refine lv_topi (fun w ew => ?_)
  have ew2 : w = 24 := by rw [ew]; decide
  subst ew2
  refine lv_iload_n hx hb dX5_init_78 rfl (lv_at hl 0 rfl) ?_
  refine lv_iadd hx hb dX5_init_79 ?_
  refine lv_topi (fun w ew => ?_)
  have ew2 : w = 26 := by rw [ew]; decide
  subst ew2
  refine lv_bipush (v := 9) hx hb dX5_init_80 (by decide) ?_
  refine va_iast (D := g) hx hb hK hP hD hS (ws.length + 1) 0 (ga rfl) rfl (by unfold vp_in; decide) dX5_init_82 (fun H locs hP hD hS => ?_)
  rw [gs] at hP hD
  have hP : va_P g classes (ws ++ [(h0, .inr (5, [.ref z_q1, .ref z_q2, .ref z_q3, .int 3, .null, .ref z_q4, .ref z_q8, .ref z_q9])), (z_q1, .inl (ts.1, 144, .inl (upd (upd (upd (fun _ => 0) 0 9) 13 9) 26 9))), (z_q2, .inl (ts.1, 12, .inl (fun _ => 0))), (z_q3, .inl (ts.1, 12, .inl (fun _ => 0))), (z_q4, .inr (4, [.ref z_q5, .ref z_q6, .ref z_q7, .int 0])), (z_q5, .inl (ts.1, 128, .inl (fun _ => 0))), (z_q6, .inl (ts.1, 129, .inl (fun _ => 0))), (z_q7, .inl (ts.1, 6, .inl (fun _ => 0))), (z_q8, .inl (ts.1, 1440, .inl (fun _ => 0))), (z_q9, .inl (ts.1, 120, .inl (fun _ => 0)))]) H := hP
  have hD : va_D A (ws ++ [(h0, .inr (5, [.ref z_q1, .ref z_q2, .ref z_q3, .int 3, .null, .ref z_q4, .ref z_q8, .ref z_q9])), (z_q1, .inl (ts.1, 144, .inl (upd (upd (upd (fun _ => 0) 0 9) 13 9) 26 9))), (z_q2, .inl (ts.1, 12, .inl (fun _ => 0))), (z_q3, .inl (ts.1, 12, .inl (fun _ => 0))), (z_q4, .inr (4, [.ref z_q5, .ref z_q6, .ref z_q7, .int 0])), (z_q5, .inl (ts.1, 128, .inl (fun _ => 0))), (z_q6, .inl (ts.1, 129, .inl (fun _ => 0))), (z_q7, .inl (ts.1, 6, .inl (fun _ => 0))), (z_q8, .inl (ts.1, 1440, .inl (fun _ => 0))), (z_q9, .inl (ts.1, 120, .inl (fun _ => 0)))]) := hD
  refine lv_iinc (v := 3) (lv' := [(1, .int 3), (0, .ref h0)]) hx hb dX5_init_83 hl (k := 0) rfl (by decide) (by decide) rfl (fun ls hl => ?_)
  refine lv_goto (tgt := 64) hx hb dX5_init_86 (by decide) ?_
  refine lv_iload_n hx hb dX5_init_64 rfl (lv_at hl 0 rfl) ?_
  refine lv_bipush (v := 12) hx hb dX5_init_65 (by decide) ?_
  refine lv_icmp_ge (tgt := 89) hx hb dX5_init_67 (by decide) (fun c1 => absurd c1 (by decide)) (fun c1 => ?_)
  refine lv_aload_n hx hb dX5_init_70 rfl (lv_at hl 1 rfl) ?_
  refine va_get (D := g) (ci := 5) (v := .ref z_q1) (C := RX5) (T := TX5) (N := 8) hx hb hts inU5 hown hK hP (ws.length + 0) (ga rfl) rfl 0 (by decide) (hts _ q_116) (fun _ h => h) rfl dX5_init_71 ?_
  refine lv_iload_n hx hb dX5_init_74 rfl (lv_at hl 0 rfl) ?_
  refine lv_bipush (v := 12) hx hb dX5_init_75 (by decide) ?_
  refine lv_imul hx hb dX5_init_77 ?_
  refine lv_topi (fun w ew => ?_)
  have ew2 : w = 36 := by rw [ew]; decide
  subst ew2
  refine lv_iload_n hx hb dX5_init_78 rfl (lv_at hl 0 rfl) ?_
  refine lv_iadd hx hb dX5_init_79 ?_
  refine lv_topi (fun w ew => ?_)
  have ew2 : w = 39 := by rw [ew]; decide
  subst ew2
  refine lv_bipush (v := 9) hx hb dX5_init_80 (by decide) ?_
  refine va_iast (D := g) hx hb hK hP hD hS (ws.length + 1) 0 (ga rfl) rfl (by unfold vp_in; decide) dX5_init_82 (fun H locs hP hD hS => ?_)
  rw [gs] at hP hD
  have hP : va_P g classes (ws ++ [(h0, .inr (5, [.ref z_q1, .ref z_q2, .ref z_q3, .int 3, .null, .ref z_q4, .ref z_q8, .ref z_q9])), (z_q1, .inl (ts.1, 144, .inl (upd (upd (upd (upd (fun _ => 0) 0 9) 13 9) 26 9) 39 9))), (z_q2, .inl (ts.1, 12, .inl (fun _ => 0))), (z_q3, .inl (ts.1, 12, .inl (fun _ => 0))), (z_q4, .inr (4, [.ref z_q5, .ref z_q6, .ref z_q7, .int 0])), (z_q5, .inl (ts.1, 128, .inl (fun _ => 0))), (z_q6, .inl (ts.1, 129, .inl (fun _ => 0))), (z_q7, .inl (ts.1, 6, .inl (fun _ => 0))), (z_q8, .inl (ts.1, 1440, .inl (fun _ => 0))), (z_q9, .inl (ts.1, 120, .inl (fun _ => 0)))]) H := hP
  have hD : va_D A (ws ++ [(h0, .inr (5, [.ref z_q1, .ref z_q2, .ref z_q3, .int 3, .null, .ref z_q4, .ref z_q8, .ref z_q9])), (z_q1, .inl (ts.1, 144, .inl (upd (upd (upd (upd (fun _ => 0) 0 9) 13 9) 26 9) 39 9))), (z_q2, .inl (ts.1, 12, .inl (fun _ => 0))), (z_q3, .inl (ts.1, 12, .inl (fun _ => 0))), (z_q4, .inr (4, [.ref z_q5, .ref z_q6, .ref z_q7, .int 0])), (z_q5, .inl (ts.1, 128, .inl (fun _ => 0))), (z_q6, .inl (ts.1, 129, .inl (fun _ => 0))), (z_q7, .inl (ts.1, 6, .inl (fun _ => 0))), (z_q8, .inl (ts.1, 1440, .inl (fun _ => 0))), (z_q9, .inl (ts.1, 120, .inl (fun _ => 0)))]) := hD
  refine lv_iinc (v := 4) (lv' := [(1, .int 4), (0, .ref h0)]) hx hb dX5_init_83 hl (k := 0) rfl (by decide) (by decide) rfl (fun ls hl => ?_)
  refine lv_goto (tgt := 64) hx hb dX5_init_86 (by decide) ?_
  refine lv_iload_n hx hb dX5_init_64 rfl (lv_at hl 0 rfl) ?_
  refine lv_bipush (v := 12) hx hb dX5_init_65 (by decide) ?_
  refine lv_icmp_ge (tgt := 89) hx hb dX5_init_67 (by decide) (fun c1 => absurd c1 (by decide)) (fun c1 => ?_)
  refine lv_aload_n hx hb dX5_init_70 rfl (lv_at hl 1 rfl) ?_
  refine va_get (D := g) (ci := 5) (v := .ref z_q1) (C := RX5) (T := TX5) (N := 8) hx hb hts inU5 hown hK hP (ws.length + 0) (ga rfl) rfl 0 (by decide) (hts _ q_116) (fun _ h => h) rfl dX5_init_71 ?_
  refine lv_iload_n hx hb dX5_init_74 rfl (lv_at hl 0 rfl) ?_
  refine lv_bipush (v := 12) hx hb dX5_init_75 (by decide) ?_
  refine lv_imul hx hb dX5_init_77 ?_
  refine lv_topi (fun w ew => ?_)
  have ew2 : w = 48 := by rw [ew]; decide
  subst ew2
  refine lv_iload_n hx hb dX5_init_78 rfl (lv_at hl 0 rfl) ?_
  refine lv_iadd hx hb dX5_init_79 ?_
  refine lv_topi (fun w ew => ?_)
  have ew2 : w = 52 := by rw [ew]; decide
  subst ew2
  refine lv_bipush (v := 9) hx hb dX5_init_80 (by decide) ?_
  refine va_iast (D := g) hx hb hK hP hD hS (ws.length + 1) 0 (ga rfl) rfl (by unfold vp_in; decide) dX5_init_82 (fun H locs hP hD hS => ?_)
  rw [gs] at hP hD
  have hP : va_P g classes (ws ++ [(h0, .inr (5, [.ref z_q1, .ref z_q2, .ref z_q3, .int 3, .null, .ref z_q4, .ref z_q8, .ref z_q9])), (z_q1, .inl (ts.1, 144, .inl (upd (upd (upd (upd (upd (fun _ => 0) 0 9) 13 9) 26 9) 39 9) 52 9))), (z_q2, .inl (ts.1, 12, .inl (fun _ => 0))), (z_q3, .inl (ts.1, 12, .inl (fun _ => 0))), (z_q4, .inr (4, [.ref z_q5, .ref z_q6, .ref z_q7, .int 0])), (z_q5, .inl (ts.1, 128, .inl (fun _ => 0))), (z_q6, .inl (ts.1, 129, .inl (fun _ => 0))), (z_q7, .inl (ts.1, 6, .inl (fun _ => 0))), (z_q8, .inl (ts.1, 1440, .inl (fun _ => 0))), (z_q9, .inl (ts.1, 120, .inl (fun _ => 0)))]) H := hP
  have hD : va_D A (ws ++ [(h0, .inr (5, [.ref z_q1, .ref z_q2, .ref z_q3, .int 3, .null, .ref z_q4, .ref z_q8, .ref z_q9])), (z_q1, .inl (ts.1, 144, .inl (upd (upd (upd (upd (upd (fun _ => 0) 0 9) 13 9) 26 9) 39 9) 52 9))), (z_q2, .inl (ts.1, 12, .inl (fun _ => 0))), (z_q3, .inl (ts.1, 12, .inl (fun _ => 0))), (z_q4, .inr (4, [.ref z_q5, .ref z_q6, .ref z_q7, .int 0])), (z_q5, .inl (ts.1, 128, .inl (fun _ => 0))), (z_q6, .inl (ts.1, 129, .inl (fun _ => 0))), (z_q7, .inl (ts.1, 6, .inl (fun _ => 0))), (z_q8, .inl (ts.1, 1440, .inl (fun _ => 0))), (z_q9, .inl (ts.1, 120, .inl (fun _ => 0)))]) := hD
  refine lv_iinc (v := 5) (lv' := [(1, .int 5), (0, .ref h0)]) hx hb dX5_init_83 hl (k := 0) rfl (by decide) (by decide) rfl (fun ls hl => ?_)
  refine lv_goto (tgt := 64) hx hb dX5_init_86 (by decide) ?_
  refine lv_iload_n hx hb dX5_init_64 rfl (lv_at hl 0 rfl) ?_
  refine lv_bipush (v := 12) hx hb dX5_init_65 (by decide) ?_
  refine lv_icmp_ge (tgt := 89) hx hb dX5_init_67 (by decide) (fun c1 => absurd c1 (by decide)) (fun c1 => ?_)
  refine lv_aload_n hx hb dX5_init_70 rfl (lv_at hl 1 rfl) ?_
  refine va_get (D := g) (ci := 5) (v := .ref z_q1) (C := RX5) (T := TX5) (N := 8) hx hb hts inU5 hown hK hP (ws.length + 0) (ga rfl) rfl 0 (by decide) (hts _ q_116) (fun _ h => h) rfl dX5_init_71 ?_
  refine lv_iload_n hx hb dX5_init_74 rfl (lv_at hl 0 rfl) ?_
  refine lv_bipush (v := 12) hx hb dX5_init_75 (by decide) ?_
  refine lv_imul hx hb dX5_init_77 ?_
  refine lv_topi (fun w ew => ?_)
  have ew2 : w = 60 := by rw [ew]; decide
  subst ew2
  refine lv_iload_n hx hb dX5_init_78 rfl (lv_at hl 0 rfl) ?_
  refine lv_iadd hx hb dX5_init_79 ?_
  refine lv_topi (fun w ew => ?_)
  have ew2 : w = 65 := by rw [ew]; decide
  subst ew2
  refine lv_bipush (v := 9) hx hb dX5_init_80 (by decide) ?_
  refine va_iast (D := g) hx hb hK hP hD hS (ws.length + 1) 0 (ga rfl) rfl (by unfold vp_in; decide) dX5_init_82 (fun H locs hP hD hS => ?_)
  rw [gs] at hP hD
  have hP : va_P g classes (ws ++ [(h0, .inr (5, [.ref z_q1, .ref z_q2, .ref z_q3, .int 3, .null, .ref z_q4, .ref z_q8, .ref z_q9])), (z_q1, .inl (ts.1, 144, .inl (upd (upd (upd (upd (upd (upd (fun _ => 0) 0 9) 13 9) 26 9) 39 9) 52 9) 65 9))), (z_q2, .inl (ts.1, 12, .inl (fun _ => 0))), (z_q3, .inl (ts.1, 12, .inl (fun _ => 0))), (z_q4, .inr (4, [.ref z_q5, .ref z_q6, .ref z_q7, .int 0])), (z_q5, .inl (ts.1, 128, .inl (fun _ => 0))), (z_q6, .inl (ts.1, 129, .inl (fun _ => 0))), (z_q7, .inl (ts.1, 6, .inl (fun _ => 0))), (z_q8, .inl (ts.1, 1440, .inl (fun _ => 0))), (z_q9, .inl (ts.1, 120, .inl (fun _ => 0)))]) H := hP
  have hD : va_D A (ws ++ [(h0, .inr (5, [.ref z_q1, .ref z_q2, .ref z_q3, .int 3, .null, .ref z_q4, .ref z_q8, .ref z_q9])), (z_q1, .inl (ts.1, 144, .inl (upd (upd (upd (upd (upd (upd (fun _ => 0) 0 9) 13 9) 26 9) 39 9) 52 9) 65 9))), (z_q2, .inl (ts.1, 12, .inl (fun _ => 0))), (z_q3, .inl (ts.1, 12, .inl (fun _ => 0))), (z_q4, .inr (4, [.ref z_q5, .ref z_q6, .ref z_q7, .int 0])), (z_q5, .inl (ts.1, 128, .inl (fun _ => 0))), (z_q6, .inl (ts.1, 129, .inl (fun _ => 0))), (z_q7, .inl (ts.1, 6, .inl (fun _ => 0))), (z_q8, .inl (ts.1, 1440, .inl (fun _ => 0))), (z_q9, .inl (ts.1, 120, .inl (fun _ => 0)))]) := hD
  refine lv_iinc (v := 6) (lv' := [(1, .int 6), (0, .ref h0)]) hx hb dX5_init_83 hl (k := 0) rfl (by decide) (by decide) rfl (fun ls hl => ?_)
  refine lv_goto (tgt := 64) hx hb dX5_init_86 (by decide) ?_
  refine lv_iload_n hx hb dX5_init_64 rfl (lv_at hl 0 rfl) ?_
  refine lv_bipush (v := 12) hx hb dX5_init_65 (by decide) ?_
  refine lv_icmp_ge (tgt := 89) hx hb dX5_init_67 (by decide) (fun c1 => absurd c1 (by decide)) (fun c1 => ?_)
  refine lv_aload_n hx hb dX5_init_70 rfl (lv_at hl 1 rfl) ?_
  refine va_get (D := g) (ci := 5) (v := .ref z_q1) (C := RX5) (T := TX5) (N := 8) hx hb hts inU5 hown hK hP (ws.length + 0) (ga rfl) rfl 0 (by decide) (hts _ q_116) (fun _ h => h) rfl dX5_init_71 ?_
  refine lv_iload_n hx hb dX5_init_74 rfl (lv_at hl 0 rfl) ?_
  refine lv_bipush (v := 12) hx hb dX5_init_75 (by decide) ?_
  refine lv_imul hx hb dX5_init_77 ?_
  refine lv_topi (fun w ew => ?_)
  have ew2 : w = 72 := by rw [ew]; decide
  subst ew2
  refine lv_iload_n hx hb dX5_init_78 rfl (lv_at hl 0 rfl) ?_
  refine lv_iadd hx hb dX5_init_79 ?_
  refine lv_topi (fun w ew => ?_)
  have ew2 : w = 78 := by rw [ew]; decide
  subst ew2
  refine lv_bipush (v := 9) hx hb dX5_init_80 (by decide) ?_
  refine va_iast (D := g) hx hb hK hP hD hS (ws.length + 1) 0 (ga rfl) rfl (by unfold vp_in; decide) dX5_init_82 (fun H locs hP hD hS => ?_)
  rw [gs] at hP hD
  have hP : va_P g classes (ws ++ [(h0, .inr (5, [.ref z_q1, .ref z_q2, .ref z_q3, .int 3, .null, .ref z_q4, .ref z_q8, .ref z_q9])), (z_q1, .inl (ts.1, 144, .inl (upd (upd (upd (upd (upd (upd (upd (fun _ => 0) 0 9) 13 9) 26 9) 39 9) 52 9) 65 9) 78 9))), (z_q2, .inl (ts.1, 12, .inl (fun _ => 0))), (z_q3, .inl (ts.1, 12, .inl (fun _ => 0))), (z_q4, .inr (4, [.ref z_q5, .ref z_q6, .ref z_q7, .int 0])), (z_q5, .inl (ts.1, 128, .inl (fun _ => 0))), (z_q6, .inl (ts.1, 129, .inl (fun _ => 0))), (z_q7, .inl (ts.1, 6, .inl (fun _ => 0))), (z_q8, .inl (ts.1, 1440, .inl (fun _ => 0))), (z_q9, .inl (ts.1, 120, .inl (fun _ => 0)))]) H := hP
  have hD : va_D A (ws ++ [(h0, .inr (5, [.ref z_q1, .ref z_q2, .ref z_q3, .int 3, .null, .ref z_q4, .ref z_q8, .ref z_q9])), (z_q1, .inl (ts.1, 144, .inl (upd (upd (upd (upd (upd (upd (upd (fun _ => 0) 0 9) 13 9) 26 9) 39 9) 52 9) 65 9) 78 9))), (z_q2, .inl (ts.1, 12, .inl (fun _ => 0))), (z_q3, .inl (ts.1, 12, .inl (fun _ => 0))), (z_q4, .inr (4, [.ref z_q5, .ref z_q6, .ref z_q7, .int 0])), (z_q5, .inl (ts.1, 128, .inl (fun _ => 0))), (z_q6, .inl (ts.1, 129, .inl (fun _ => 0))), (z_q7, .inl (ts.1, 6, .inl (fun _ => 0))), (z_q8, .inl (ts.1, 1440, .inl (fun _ => 0))), (z_q9, .inl (ts.1, 120, .inl (fun _ => 0)))]) := hD
  refine lv_iinc (v := 7) (lv' := [(1, .int 7), (0, .ref h0)]) hx hb dX5_init_83 hl (k := 0) rfl (by decide) (by decide) rfl (fun ls hl => ?_)
  refine lv_goto (tgt := 64) hx hb dX5_init_86 (by decide) ?_
  refine lv_iload_n hx hb dX5_init_64 rfl (lv_at hl 0 rfl) ?_
  refine lv_bipush (v := 12) hx hb dX5_init_65 (by decide) ?_
  refine lv_icmp_ge (tgt := 89) hx hb dX5_init_67 (by decide) (fun c1 => absurd c1 (by decide)) (fun c1 => ?_)
  refine lv_aload_n hx hb dX5_init_70 rfl (lv_at hl 1 rfl) ?_
  refine va_get (D := g) (ci := 5) (v := .ref z_q1) (C := RX5) (T := TX5) (N := 8) hx hb hts inU5 hown hK hP (ws.length + 0) (ga rfl) rfl 0 (by decide) (hts _ q_116) (fun _ h => h) rfl dX5_init_71 ?_
  refine lv_iload_n hx hb dX5_init_74 rfl (lv_at hl 0 rfl) ?_
  refine lv_bipush (v := 12) hx hb dX5_init_75 (by decide) ?_
  refine lv_imul hx hb dX5_init_77 ?_
  refine lv_topi (fun w ew => ?_)
  have ew2 : w = 84 := by rw [ew]; decide
  subst ew2
  refine lv_iload_n hx hb dX5_init_78 rfl (lv_at hl 0 rfl) ?_
  refine lv_iadd hx hb dX5_init_79 ?_
  refine lv_topi (fun w ew => ?_)
  have ew2 : w = 91 := by rw [ew]; decide
  subst ew2
  refine lv_bipush (v := 9) hx hb dX5_init_80 (by decide) ?_
  refine va_iast (D := g) hx hb hK hP hD hS (ws.length + 1) 0 (ga rfl) rfl (by unfold vp_in; decide) dX5_init_82 (fun H locs hP hD hS => ?_)
  rw [gs] at hP hD
  have hP : va_P g classes (ws ++ [(h0, .inr (5, [.ref z_q1, .ref z_q2, .ref z_q3, .int 3, .null, .ref z_q4, .ref z_q8, .ref z_q9])), (z_q1, .inl (ts.1, 144, .inl (upd (upd (upd (upd (upd (upd (upd (upd (fun _ => 0) 0 9) 13 9) 26 9) 39 9) 52 9) 65 9) 78 9) 91 9))), (z_q2, .inl (ts.1, 12, .inl (fun _ => 0))), (z_q3, .inl (ts.1, 12, .inl (fun _ => 0))), (z_q4, .inr (4, [.ref z_q5, .ref z_q6, .ref z_q7, .int 0])), (z_q5, .inl (ts.1, 128, .inl (fun _ => 0))), (z_q6, .inl (ts.1, 129, .inl (fun _ => 0))), (z_q7, .inl (ts.1, 6, .inl (fun _ => 0))), (z_q8, .inl (ts.1, 1440, .inl (fun _ => 0))), (z_q9, .inl (ts.1, 120, .inl (fun _ => 0)))]) H := hP
  have hD : va_D A (ws ++ [(h0, .inr (5, [.ref z_q1, .ref z_q2, .ref z_q3, .int 3, .null, .ref z_q4, .ref z_q8, .ref z_q9])), (z_q1, .inl (ts.1, 144, .inl (upd (upd (upd (upd (upd (upd (upd (upd (fun _ => 0) 0 9) 13 9) 26 9) 39 9) 52 9) 65 9) 78 9) 91 9))), (z_q2, .inl (ts.1, 12, .inl (fun _ => 0))), (z_q3, .inl (ts.1, 12, .inl (fun _ => 0))), (z_q4, .inr (4, [.ref z_q5, .ref z_q6, .ref z_q7, .int 0])), (z_q5, .inl (ts.1, 128, .inl (fun _ => 0))), (z_q6, .inl (ts.1, 129, .inl (fun _ => 0))), (z_q7, .inl (ts.1, 6, .inl (fun _ => 0))), (z_q8, .inl (ts.1, 1440, .inl (fun _ => 0))), (z_q9, .inl (ts.1, 120, .inl (fun _ => 0)))]) := hD
  refine lv_iinc (v := 8) (lv' := [(1, .int 8), (0, .ref h0)]) hx hb dX5_init_83 hl (k := 0) rfl (by decide) (by decide) rfl (fun ls hl => ?_)
  refine lv_goto (tgt := 64) hx hb dX5_init_86 (by decide) ?_
  refine lv_iload_n hx hb dX5_init_64 rfl (lv_at hl 0 rfl) ?_
  refine lv_bipush (v := 12) hx hb dX5_init_65 (by decide) ?_
  refine lv_icmp_ge (tgt := 89) hx hb dX5_init_67 (by decide) (fun c1 => absurd c1 (by decide)) (fun c1 => ?_)
  refine lv_aload_n hx hb dX5_init_70 rfl (lv_at hl 1 rfl) ?_
  refine va_get (D := g) (ci := 5) (v := .ref z_q1) (C := RX5) (T := TX5) (N := 8) hx hb hts inU5 hown hK hP (ws.length + 0) (ga rfl) rfl 0 (by decide) (hts _ q_116) (fun _ h => h) rfl dX5_init_71 ?_
  refine lv_iload_n hx hb dX5_init_74 rfl (lv_at hl 0 rfl) ?_
  refine lv_bipush (v := 12) hx hb dX5_init_75 (by decide) ?_
  refine lv_imul hx hb dX5_init_77 ?_
  refine lv_topi (fun w ew => ?_)
  have ew2 : w = 96 := by rw [ew]; decide
  subst ew2
  refine lv_iload_n hx hb dX5_init_78 rfl (lv_at hl 0 rfl) ?_
  refine lv_iadd hx hb dX5_init_79 ?_
  refine lv_topi (fun w ew => ?_)
  have ew2 : w = 104 := by rw [ew]; decide
  subst ew2
  refine lv_bipush (v := 9) hx hb dX5_init_80 (by decide) ?_
  refine va_iast (D := g) hx hb hK hP hD hS (ws.length + 1) 0 (ga rfl) rfl (by unfold vp_in; decide) dX5_init_82 (fun H locs hP hD hS => ?_)
  rw [gs] at hP hD
  have hP : va_P g classes (ws ++ [(h0, .inr (5, [.ref z_q1, .ref z_q2, .ref z_q3, .int 3, .null, .ref z_q4, .ref z_q8, .ref z_q9])), (z_q1, .inl (ts.1, 144, .inl (upd (upd (upd (upd (upd (upd (upd (upd (upd (fun _ => 0) 0 9) 13 9) 26 9) 39 9) 52 9) 65 9) 78 9) 91 9) 104 9))), (z_q2, .inl (ts.1, 12, .inl (fun _ => 0))), (z_q3, .inl (ts.1, 12, .inl (fun _ => 0))), (z_q4, .inr (4, [.ref z_q5, .ref z_q6, .ref z_q7, .int 0])), (z_q5, .inl (ts.1, 128, .inl (fun _ => 0))), (z_q6, .inl (ts.1, 129, .inl (fun _ => 0))), (z_q7, .inl (ts.1, 6, .inl (fun _ => 0))), (z_q8, .inl (ts.1, 1440, .inl (fun _ => 0))), (z_q9, .inl (ts.1, 120, .inl (fun _ => 0)))]) H := hP
  have hD : va_D A (ws ++ [(h0, .inr (5, [.ref z_q1, .ref z_q2, .ref z_q3, .int 3, .null, .ref z_q4, .ref z_q8, .ref z_q9])), (z_q1, .inl (ts.1, 144, .inl (upd (upd (upd (upd (upd (upd (upd (upd (upd (fun _ => 0) 0 9) 13 9) 26 9) 39 9) 52 9) 65 9) 78 9) 91 9) 104 9))), (z_q2, .inl (ts.1, 12, .inl (fun _ => 0))), (z_q3, .inl (ts.1, 12, .inl (fun _ => 0))), (z_q4, .inr (4, [.ref z_q5, .ref z_q6, .ref z_q7, .int 0])), (z_q5, .inl (ts.1, 128, .inl (fun _ => 0))), (z_q6, .inl (ts.1, 129, .inl (fun _ => 0))), (z_q7, .inl (ts.1, 6, .inl (fun _ => 0))), (z_q8, .inl (ts.1, 1440, .inl (fun _ => 0))), (z_q9, .inl (ts.1, 120, .inl (fun _ => 0)))]) := hD
  refine lv_iinc (v := 9) (lv' := [(1, .int 9), (0, .ref h0)]) hx hb dX5_init_83 hl (k := 0) rfl (by decide) (by decide) rfl (fun ls hl => ?_)
  refine lv_goto (tgt := 64) hx hb dX5_init_86 (by decide) ?_
  refine lv_iload_n hx hb dX5_init_64 rfl (lv_at hl 0 rfl) ?_
  refine lv_bipush (v := 12) hx hb dX5_init_65 (by decide) ?_
  refine lv_icmp_ge (tgt := 89) hx hb dX5_init_67 (by decide) (fun c1 => absurd c1 (by decide)) (fun c1 => ?_)
  refine lv_aload_n hx hb dX5_init_70 rfl (lv_at hl 1 rfl) ?_
  refine va_get (D := g) (ci := 5) (v := .ref z_q1) (C := RX5) (T := TX5) (N := 8) hx hb hts inU5 hown hK hP (ws.length + 0) (ga rfl) rfl 0 (by decide) (hts _ q_116) (fun _ h => h) rfl dX5_init_71 ?_
  refine lv_iload_n hx hb dX5_init_74 rfl (lv_at hl 0 rfl) ?_
  refine lv_bipush (v := 12) hx hb dX5_init_75 (by decide) ?_
  refine lv_imul hx hb dX5_init_77 ?_
  refine lv_topi (fun w ew => ?_)
  have ew2 : w = 108 := by rw [ew]; decide
  subst ew2
  refine lv_iload_n hx hb dX5_init_78 rfl (lv_at hl 0 rfl) ?_
  refine lv_iadd hx hb dX5_init_79 ?_
  refine lv_topi (fun w ew => ?_)
  have ew2 : w = 117 := by rw [ew]; decide
  subst ew2
  refine lv_bipush (v := 9) hx hb dX5_init_80 (by decide) ?_
  refine va_iast (D := g) hx hb hK hP hD hS (ws.length + 1) 0 (ga rfl) rfl (by unfold vp_in; decide) dX5_init_82 (fun H locs hP hD hS => ?_)
  rw [gs] at hP hD
  have hP : va_P g classes (ws ++ [(h0, .inr (5, [.ref z_q1, .ref z_q2, .ref z_q3, .int 3, .null, .ref z_q4, .ref z_q8, .ref z_q9])), (z_q1, .inl (ts.1, 144, .inl (upd (upd (upd (upd (upd (upd (upd (upd (upd (upd (fun _ => 0) 0 9) 13 9) 26 9) 39 9) 52 9) 65 9) 78 9) 91 9) 104 9) 117 9))), (z_q2, .inl (ts.1, 12, .inl (fun _ => 0))), (z_q3, .inl (ts.1, 12, .inl (fun _ => 0))), (z_q4, .inr (4, [.ref z_q5, .ref z_q6, .ref z_q7, .int 0])), (z_q5, .inl (ts.1, 128, .inl (fun _ => 0))), (z_q6, .inl (ts.1, 129, .inl (fun _ => 0))), (z_q7, .inl (ts.1, 6, .inl (fun _ => 0))), (z_q8, .inl (ts.1, 1440, .inl (fun _ => 0))), (z_q9, .inl (ts.1, 120, .inl (fun _ => 0)))]) H := hP
  have hD : va_D A (ws ++ [(h0, .inr (5, [.ref z_q1, .ref z_q2, .ref z_q3, .int 3, .null, .ref z_q4, .ref z_q8, .ref z_q9])), (z_q1, .inl (ts.1, 144, .inl (upd (upd (upd (upd (upd (upd (upd (upd (upd (upd (fun _ => 0) 0 9) 13 9) 26 9) 39 9) 52 9) 65 9) 78 9) 91 9) 104 9) 117 9))), (z_q2, .inl (ts.1, 12, .inl (fun _ => 0))), (z_q3, .inl (ts.1, 12, .inl (fun _ => 0))), (z_q4, .inr (4, [.ref z_q5, .ref z_q6, .ref z_q7, .int 0])), (z_q5, .inl (ts.1, 128, .inl (fun _ => 0))), (z_q6, .inl (ts.1, 129, .inl (fun _ => 0))), (z_q7, .inl (ts.1, 6, .inl (fun _ => 0))), (z_q8, .inl (ts.1, 1440, .inl (fun _ => 0))), (z_q9, .inl (ts.1, 120, .inl (fun _ => 0)))]) := hD
  refine lv_iinc (v := 10) (lv' := [(1, .int 10), (0, .ref h0)]) hx hb dX5_init_83 hl (k := 0) rfl (by decide) (by decide) rfl (fun ls hl => ?_)
  refine lv_goto (tgt := 64) hx hb dX5_init_86 (by decide) ?_
  refine lv_iload_n hx hb dX5_init_64 rfl (lv_at hl 0 rfl) ?_
  refine lv_bipush (v := 12) hx hb dX5_init_65 (by decide) ?_
  refine lv_icmp_ge (tgt := 89) hx hb dX5_init_67 (by decide) (fun c1 => absurd c1 (by decide)) (fun c1 => ?_)
  refine lv_aload_n hx hb dX5_init_70 rfl (lv_at hl 1 rfl) ?_
  refine va_get (D := g) (ci := 5) (v := .ref z_q1) (C := RX5) (T := TX5) (N := 8) hx hb hts inU5 hown hK hP (ws.length + 0) (ga rfl) rfl 0 (by decide) (hts _ q_116) (fun _ h => h) rfl dX5_init_71 ?_
  refine lv_iload_n hx hb dX5_init_74 rfl (lv_at hl 0 rfl) ?_
  refine lv_bipush (v := 12) hx hb dX5_init_75 (by decide) ?_
  refine lv_imul hx hb dX5_init_77 ?_
  refine lv_topi (fun w ew => ?_)
  have ew2 : w = 120 := by rw [ew]; decide
  subst ew2
  refine lv_iload_n hx hb dX5_init_78 rfl (lv_at hl 0 rfl) ?_
  refine lv_iadd hx hb dX5_init_79 ?_
  refine lv_topi (fun w ew => ?_)
  have ew2 : w = 130 := by rw [ew]; decide
  subst ew2
  refine lv_bipush (v := 9) hx hb dX5_init_80 (by decide) ?_
  refine va_iast (D := g) hx hb hK hP hD hS (ws.length + 1) 0 (ga rfl) rfl (by unfold vp_in; decide) dX5_init_82 (fun H locs hP hD hS => ?_)
  rw [gs] at hP hD
  have hP : va_P g classes (ws ++ [(h0, .inr (5, [.ref z_q1, .ref z_q2, .ref z_q3, .int 3, .null, .ref z_q4, .ref z_q8, .ref z_q9])), (z_q1, .inl (ts.1, 144, .inl (upd (upd (upd (upd (upd (upd (upd (upd (upd (upd (upd (fun _ => 0) 0 9) 13 9) 26 9) 39 9) 52 9) 65 9) 78 9) 91 9) 104 9) 117 9) 130 9))), (z_q2, .inl (ts.1, 12, .inl (fun _ => 0))), (z_q3, .inl (ts.1, 12, .inl (fun _ => 0))), (z_q4, .inr (4, [.ref z_q5, .ref z_q6, .ref z_q7, .int 0])), (z_q5, .inl (ts.1, 128, .inl (fun _ => 0))), (z_q6, .inl (ts.1, 129, .inl (fun _ => 0))), (z_q7, .inl (ts.1, 6, .inl (fun _ => 0))), (z_q8, .inl (ts.1, 1440, .inl (fun _ => 0))), (z_q9, .inl (ts.1, 120, .inl (fun _ => 0)))]) H := hP
  have hD : va_D A (ws ++ [(h0, .inr (5, [.ref z_q1, .ref z_q2, .ref z_q3, .int 3, .null, .ref z_q4, .ref z_q8, .ref z_q9])), (z_q1, .inl (ts.1, 144, .inl (upd (upd (upd (upd (upd (upd (upd (upd (upd (upd (upd (fun _ => 0) 0 9) 13 9) 26 9) 39 9) 52 9) 65 9) 78 9) 91 9) 104 9) 117 9) 130 9))), (z_q2, .inl (ts.1, 12, .inl (fun _ => 0))), (z_q3, .inl (ts.1, 12, .inl (fun _ => 0))), (z_q4, .inr (4, [.ref z_q5, .ref z_q6, .ref z_q7, .int 0])), (z_q5, .inl (ts.1, 128, .inl (fun _ => 0))), (z_q6, .inl (ts.1, 129, .inl (fun _ => 0))), (z_q7, .inl (ts.1, 6, .inl (fun _ => 0))), (z_q8, .inl (ts.1, 1440, .inl (fun _ => 0))), (z_q9, .inl (ts.1, 120, .inl (fun _ => 0)))]) := hD
  refine lv_iinc (v := 11) (lv' := [(1, .int 11), (0, .ref h0)]) hx hb dX5_init_83 hl (k := 0) rfl (by decide) (by decide) rfl (fun ls hl => ?_)
  refine lv_goto (tgt := 64) hx hb dX5_init_86 (by decide) ?_
  refine lv_iload_n hx hb dX5_init_64 rfl (lv_at hl 0 rfl) ?_
  refine lv_bipush (v := 12) hx hb dX5_init_65 (by decide) ?_
  refine lv_icmp_ge (tgt := 89) hx hb dX5_init_67 (by decide) (fun c1 => absurd c1 (by decide)) (fun c1 => ?_)
  refine lv_aload_n hx hb dX5_init_70 rfl (lv_at hl 1 rfl) ?_
  refine va_get (D := g) (ci := 5) (v := .ref z_q1) (C := RX5) (T := TX5) (N := 8) hx hb hts inU5 hown hK hP (ws.length + 0) (ga rfl) rfl 0 (by decide) (hts _ q_116) (fun _ h => h) rfl dX5_init_71 ?_
  refine lv_iload_n hx hb dX5_init_74 rfl (lv_at hl 0 rfl) ?_
  refine lv_bipush (v := 12) hx hb dX5_init_75 (by decide) ?_
  refine lv_imul hx hb dX5_init_77 ?_
  refine lv_topi (fun w ew => ?_)
  have ew2 : w = 132 := by rw [ew]; decide
  subst ew2
  refine lv_iload_n hx hb dX5_init_78 rfl (lv_at hl 0 rfl) ?_
  refine lv_iadd hx hb dX5_init_79 ?_
  refine lv_topi (fun w ew => ?_)
  have ew2 : w = 143 := by rw [ew]; decide
  subst ew2
  refine lv_bipush (v := 9) hx hb dX5_init_80 (by decide) ?_
  refine va_iast (D := g) hx hb hK hP hD hS (ws.length + 1) 0 (ga rfl) rfl (by unfold vp_in; decide) dX5_init_82 (fun H locs hP hD hS => ?_)
  rw [gs] at hP hD
  have hP : va_P g classes (ws ++ [(h0, .inr (5, [.ref z_q1, .ref z_q2, .ref z_q3, .int 3, .null, .ref z_q4, .ref z_q8, .ref z_q9])), (z_q1, .inl (ts.1, 144, .inl (upd (upd (upd (upd (upd (upd (upd (upd (upd (upd (upd (upd (fun _ => 0) 0 9) 13 9) 26 9) 39 9) 52 9) 65 9) 78 9) 91 9) 104 9) 117 9) 130 9) 143 9))), (z_q2, .inl (ts.1, 12, .inl (fun _ => 0))), (z_q3, .inl (ts.1, 12, .inl (fun _ => 0))), (z_q4, .inr (4, [.ref z_q5, .ref z_q6, .ref z_q7, .int 0])), (z_q5, .inl (ts.1, 128, .inl (fun _ => 0))), (z_q6, .inl (ts.1, 129, .inl (fun _ => 0))), (z_q7, .inl (ts.1, 6, .inl (fun _ => 0))), (z_q8, .inl (ts.1, 1440, .inl (fun _ => 0))), (z_q9, .inl (ts.1, 120, .inl (fun _ => 0)))]) H := hP
  have hD : va_D A (ws ++ [(h0, .inr (5, [.ref z_q1, .ref z_q2, .ref z_q3, .int 3, .null, .ref z_q4, .ref z_q8, .ref z_q9])), (z_q1, .inl (ts.1, 144, .inl (upd (upd (upd (upd (upd (upd (upd (upd (upd (upd (upd (upd (fun _ => 0) 0 9) 13 9) 26 9) 39 9) 52 9) 65 9) 78 9) 91 9) 104 9) 117 9) 130 9) 143 9))), (z_q2, .inl (ts.1, 12, .inl (fun _ => 0))), (z_q3, .inl (ts.1, 12, .inl (fun _ => 0))), (z_q4, .inr (4, [.ref z_q5, .ref z_q6, .ref z_q7, .int 0])), (z_q5, .inl (ts.1, 128, .inl (fun _ => 0))), (z_q6, .inl (ts.1, 129, .inl (fun _ => 0))), (z_q7, .inl (ts.1, 6, .inl (fun _ => 0))), (z_q8, .inl (ts.1, 1440, .inl (fun _ => 0))), (z_q9, .inl (ts.1, 120, .inl (fun _ => 0)))]) := hD
  refine lv_iinc (v := 12) (lv' := [(1, .int 12), (0, .ref h0)]) hx hb dX5_init_83 hl (k := 0) rfl (by decide) (by decide) rfl (fun ls hl => ?_)
  refine lv_goto (tgt := 64) hx hb dX5_init_86 (by decide) ?_
  refine lv_iload_n hx hb dX5_init_64 rfl (lv_at hl 0 rfl) ?_
  refine lv_bipush (v := 12) hx hb dX5_init_65 (by decide) ?_
  refine lv_icmp_ge (tgt := 89) hx hb dX5_init_67 (by decide) (fun c1 => ?_) (fun c1 => absurd (by decide) c1)
  refine lv_aload_n hx hb dX5_init_89 rfl (lv_at hl 1 rfl) ?_
  refine va_get (D := g) (ci := 5) (v := .ref z_q2) (C := RX5) (T := TX5) (N := 8) hx hb hts inU5 hown hK hP (ws.length + 0) (ga rfl) rfl 1 (by decide) (hts _ q_118) (fun _ h => h) rfl dX5_init_90 ?_
  refine lv_iconst (v := 3) hx hb dX5_init_93 (by decide) ?_
  refine gFill [] C hP hD hS (k := ws.length + 2) (ga rfl) (Nat.le_of_ble_eq_true rfl) q_113 dX5_init_94 ⟨Nat.le_of_ble_eq_true rfl, Nat.le_of_ble_eq_true rfl⟩ ⟨Nat.le_of_ble_eq_true rfl, Nat.le_of_ble_eq_true rfl⟩ (Nat.le_of_ble_eq_true rfl) hl.1 (fun H locs hP hD hS => ?_)
  rw [gs] at hP hD
  have hP : va_P g classes (ws ++ [(h0, .inr (5, [.ref z_q1, .ref z_q2, .ref z_q3, .int 3, .null, .ref z_q4, .ref z_q8, .ref z_q9])), (z_q1, .inl (ts.1, 144, .inl (upd (upd (upd (upd (upd (upd (upd (upd (upd (upd (upd (upd (fun _ => 0) 0 9) 13 9) 26 9) 39 9) 52 9) 65 9) 78 9) 91 9) 104 9) 117 9) 130 9) 143 9))), (z_q2, .inl (ts.1, 12, .inl (fillA (fun _ => 0) 12 3))), (z_q3, .inl (ts.1, 12, .inl (fun _ => 0))), (z_q4, .inr (4, [.ref z_q5, .ref z_q6, .ref z_q7, .int 0])), (z_q5, .inl (ts.1, 128, .inl (fun _ => 0))), (z_q6, .inl (ts.1, 129, .inl (fun _ => 0))), (z_q7, .inl (ts.1, 6, .inl (fun _ => 0))), (z_q8, .inl (ts.1, 1440, .inl (fun _ => 0))), (z_q9, .inl (ts.1, 120, .inl (fun _ => 0)))]) H := hP
  have hD : va_D A (ws ++ [(h0, .inr (5, [.ref z_q1, .ref z_q2, .ref z_q3, .int 3, .null, .ref z_q4, .ref z_q8, .ref z_q9])), (z_q1, .inl (ts.1, 144, .inl (upd (upd (upd (upd (upd (upd (upd (upd (upd (upd (upd (upd (fun _ => 0) 0 9) 13 9) 26 9) 39 9) 52 9) 65 9) 78 9) 91 9) 104 9) 117 9) 130 9) 143 9))), (z_q2, .inl (ts.1, 12, .inl (fillA (fun _ => 0) 12 3))), (z_q3, .inl (ts.1, 12, .inl (fun _ => 0))), (z_q4, .inr (4, [.ref z_q5, .ref z_q6, .ref z_q7, .int 0])), (z_q5, .inl (ts.1, 128, .inl (fun _ => 0))), (z_q6, .inl (ts.1, 129, .inl (fun _ => 0))), (z_q7, .inl (ts.1, 6, .inl (fun _ => 0))), (z_q8, .inl (ts.1, 1440, .inl (fun _ => 0))), (z_q9, .inl (ts.1, 120, .inl (fun _ => 0)))]) := hD
  refine lv_aload_n hx hb dX5_init_97 rfl (lv_at hl 1 rfl) ?_
  refine va_get (D := g) (ci := 5) (v := .ref z_q3) (C := RX5) (T := TX5) (N := 8) hx hb hts inU5 hown hK hP (ws.length + 0) (ga rfl) rfl 2 (by decide) (hts _ q_121) (fun _ h => h) rfl dX5_init_98 ?_
  refine lv_bipush (v := 11) hx hb dX5_init_101 (by decide) ?_
  refine gFill [] C hP hD hS (k := ws.length + 3) (ga rfl) (Nat.le_of_ble_eq_true rfl) q_113 dX5_init_103 ⟨Nat.le_of_ble_eq_true rfl, Nat.le_of_ble_eq_true rfl⟩ ⟨Nat.le_of_ble_eq_true rfl, Nat.le_of_ble_eq_true rfl⟩ (Nat.le_of_ble_eq_true rfl) hl.1 (fun H locs hP hD hS => ?_)
  rw [gs] at hP hD
  have hP : va_P g classes (ws ++ [(h0, .inr (5, [.ref z_q1, .ref z_q2, .ref z_q3, .int 3, .null, .ref z_q4, .ref z_q8, .ref z_q9])), (z_q1, .inl (ts.1, 144, .inl (upd (upd (upd (upd (upd (upd (upd (upd (upd (upd (upd (upd (fun _ => 0) 0 9) 13 9) 26 9) 39 9) 52 9) 65 9) 78 9) 91 9) 104 9) 117 9) 130 9) 143 9))), (z_q2, .inl (ts.1, 12, .inl (fillA (fun _ => 0) 12 3))), (z_q3, .inl (ts.1, 12, .inl (fillA (fun _ => 0) 12 11))), (z_q4, .inr (4, [.ref z_q5, .ref z_q6, .ref z_q7, .int 0])), (z_q5, .inl (ts.1, 128, .inl (fun _ => 0))), (z_q6, .inl (ts.1, 129, .inl (fun _ => 0))), (z_q7, .inl (ts.1, 6, .inl (fun _ => 0))), (z_q8, .inl (ts.1, 1440, .inl (fun _ => 0))), (z_q9, .inl (ts.1, 120, .inl (fun _ => 0)))]) H := hP
  have hD : va_D A (ws ++ [(h0, .inr (5, [.ref z_q1, .ref z_q2, .ref z_q3, .int 3, .null, .ref z_q4, .ref z_q8, .ref z_q9])), (z_q1, .inl (ts.1, 144, .inl (upd (upd (upd (upd (upd (upd (upd (upd (upd (upd (upd (upd (fun _ => 0) 0 9) 13 9) 26 9) 39 9) 52 9) 65 9) 78 9) 91 9) 104 9) 117 9) 130 9) 143 9))), (z_q2, .inl (ts.1, 12, .inl (fillA (fun _ => 0) 12 3))), (z_q3, .inl (ts.1, 12, .inl (fillA (fun _ => 0) 12 11))), (z_q4, .inr (4, [.ref z_q5, .ref z_q6, .ref z_q7, .int 0])), (z_q5, .inl (ts.1, 128, .inl (fun _ => 0))), (z_q6, .inl (ts.1, 129, .inl (fun _ => 0))), (z_q7, .inl (ts.1, 6, .inl (fun _ => 0))), (z_q8, .inl (ts.1, 1440, .inl (fun _ => 0))), (z_q9, .inl (ts.1, 120, .inl (fun _ => 0)))]) := hD
  refine lv_aload_n hx hb dX5_init_106 rfl (lv_at hl 1 rfl) ?_
  refine va_get (D := g) (ci := 5) (v := .ref z_q9) (C := RX5) (T := TX5) (N := 8) hx hb hts inU5 hown hK hP (ws.length + 0) (ga rfl) rfl 7 (by decide) (hts _ q_131) (fun _ h => h) rfl dX5_init_107 ?_
  refine lv_iconst (v := -1) hx hb dX5_init_110 (by decide) ?_
  refine gFill [] C hP hD hS (k := ws.length + 9) (ga rfl) (Nat.le_of_ble_eq_true rfl) q_113 dX5_init_111 ⟨Nat.le_of_ble_eq_true rfl, Nat.le_of_ble_eq_true rfl⟩ ⟨Nat.le_of_ble_eq_true rfl, Nat.le_of_ble_eq_true rfl⟩ (Nat.le_of_ble_eq_true rfl) hl.1 (fun H locs hP hD hS => ?_)
  rw [gs] at hP hD
  have hP : va_P g classes (ws ++ [(h0, .inr (5, [.ref z_q1, .ref z_q2, .ref z_q3, .int 3, .null, .ref z_q4, .ref z_q8, .ref z_q9])), (z_q1, .inl (ts.1, 144, .inl (upd (upd (upd (upd (upd (upd (upd (upd (upd (upd (upd (upd (fun _ => 0) 0 9) 13 9) 26 9) 39 9) 52 9) 65 9) 78 9) 91 9) 104 9) 117 9) 130 9) 143 9))), (z_q2, .inl (ts.1, 12, .inl (fillA (fun _ => 0) 12 3))), (z_q3, .inl (ts.1, 12, .inl (fillA (fun _ => 0) 12 11))), (z_q4, .inr (4, [.ref z_q5, .ref z_q6, .ref z_q7, .int 0])), (z_q5, .inl (ts.1, 128, .inl (fun _ => 0))), (z_q6, .inl (ts.1, 129, .inl (fun _ => 0))), (z_q7, .inl (ts.1, 6, .inl (fun _ => 0))), (z_q8, .inl (ts.1, 1440, .inl (fun _ => 0))), (z_q9, .inl (ts.1, 120, .inl (fillA (fun _ => 0) 120 (-1))))]) H := hP
  have hD : va_D A (ws ++ [(h0, .inr (5, [.ref z_q1, .ref z_q2, .ref z_q3, .int 3, .null, .ref z_q4, .ref z_q8, .ref z_q9])), (z_q1, .inl (ts.1, 144, .inl (upd (upd (upd (upd (upd (upd (upd (upd (upd (upd (upd (upd (fun _ => 0) 0 9) 13 9) 26 9) 39 9) 52 9) 65 9) 78 9) 91 9) 104 9) 117 9) 130 9) 143 9))), (z_q2, .inl (ts.1, 12, .inl (fillA (fun _ => 0) 12 3))), (z_q3, .inl (ts.1, 12, .inl (fillA (fun _ => 0) 12 11))), (z_q4, .inr (4, [.ref z_q5, .ref z_q6, .ref z_q7, .int 0])), (z_q5, .inl (ts.1, 128, .inl (fun _ => 0))), (z_q6, .inl (ts.1, 129, .inl (fun _ => 0))), (z_q7, .inl (ts.1, 6, .inl (fun _ => 0))), (z_q8, .inl (ts.1, 1440, .inl (fun _ => 0))), (z_q9, .inl (ts.1, 120, .inl (fillA (fun _ => 0) 120 (-1))))]) := hD
  refine W.widen (k := 9) (n := 1995) (Nat.le_of_ble_eq_true rfl) (Nat.le_of_ble_eq_true rfl) ?_
  exact hQ _ _ _ _ _ ⟨z_q1, z_q2, z_q3, z_q4, z_q5, z_q6, z_q7, z_q8, z_q9, rfl⟩ dX5_init_114 hP hD hS
