theorem mv_X11_who : MV yX11_who cX11_who 3 (some .int) 1 := ⟨q_850, q_851, q_58, q_852, by decide +kernel, by decide +kernel, by decide +kernel⟩
theorem mv_X11_odd : MV yX11_odd cX11_odd 4 (some .int) 1 := ⟨q_863, q_864, q_58, q_865, by decide +kernel, by decide +kernel, by decide +kernel⟩
theorem mv_X11_fits : MV yX11_fits cX11_fits 4 (some .int) 2 := ⟨q_871, q_872, q_58, q_873, by decide +kernel, by decide +kernel, by decide +kernel⟩
theorem mv_X11_drawn : MV yX11_drawn cX11_drawn 5 (some .int) 3 := ⟨q_876, q_877, q_58, q_878, by decide +kernel, by decide +kernel, by decide +kernel⟩
theorem mv_X11_call : MV yX11_call cX11_call 3 (some .int) 2 := ⟨q_895, q_896, q_58, q_897, by decide +kernel, by decide +kernel, by decide +kernel⟩
theorem mv_X11_refusedPlace : MV yX11_refusedPlace cX11_refusedPlace 2 (some .int) 1 := ⟨q_909, q_12, q_58, q_910, by decide +kernel, by decide +kernel, by decide +kernel⟩
theorem mv_X11_say : MV yX11_say cX11_say 6 (some .int) 2 := ⟨q_904, q_905, q_58, q_906, by decide +kernel, by decide +kernel, by decide +kernel⟩
theorem mv_X11_noted : MV yX11_noted cX11_noted 3 (some .int) 1 := ⟨q_924, q_925, q_58, q_926, by decide +kernel, by decide +kernel, by decide +kernel⟩
theorem mv_X11_hang : MV yX11_hang cX11_hang 2 (some .int) 0 := ⟨q_928, q_929, q_58, q_930, by decide +kernel, by decide +kernel, by decide +kernel⟩
theorem mv_X11_led : MV yX11_led cX11_led 2 (some .int) 1 := ⟨q_945, q_946, q_58, q_947, by decide +kernel, by decide +kernel, by decide +kernel⟩
theorem mv_X11_image : MV yX11_image cX11_image 1 (some .int) 0 := ⟨q_949, q_950, q_58, q_951, by decide +kernel, by decide +kernel, by decide +kernel⟩
theorem mv_X11_back : MV yX11_back cX11_back 1 (some .int) 0 := ⟨q_960, q_961, q_58, q_962, by decide +kernel, by decide +kernel, by decide +kernel⟩
theorem mv_X11_undo : MV yX11_undo cX11_undo 2 (some .int) 0 := ⟨q_964, q_965, q_58, q_966, by decide +kernel, by decide +kernel, by decide +kernel⟩
theorem mv_X11_redo : MV yX11_redo cX11_redo 2 (some .int) 0 := ⟨q_972, q_973, q_58, q_974, by decide +kernel, by decide +kernel, by decide +kernel⟩
theorem mv_X11_body : MV yX11_body cX11_body 2 (some .int) 1 := ⟨q_980, q_981, q_58, q_982, by decide +kernel, by decide +kernel, by decide +kernel⟩
theorem mv_X11_act : MV yX11_act cX11_act 4 (some .int) 3 := ⟨q_988, q_989, q_58, q_990, by decide +kernel, by decide +kernel, by decide +kernel⟩
theorem mv_X11_trace : MV yX11_trace cX11_trace 2 (some .int) 1 := ⟨q_1009, q_1010, q_58, q_1011, by decide +kernel, by decide +kernel, by decide +kernel⟩
theorem mv_X11_keep : MV yX11_keep cX11_keep 3 (some .int) 2 := ⟨q_1013, q_1014, q_58, q_1015, by decide +kernel, by decide +kernel, by decide +kernel⟩
theorem mv_X11_row : MV yX11_row cX11_row 4 (some .int) 3 := ⟨q_1021, q_1022, q_58, q_1023, by decide +kernel, by decide +kernel, by decide +kernel⟩
theorem mv_X11_refusedElement : MV yX11_refusedElement cX11_refusedElement 3 (some .int) 2 := ⟨q_1035, q_14, q_58, q_1036, by decide +kernel, by decide +kernel, by decide +kernel⟩
theorem mv_X11_put : MV yX11_put cX11_put 6 (some .int) 3 := ⟨q_1030, q_1031, q_58, q_1032, by decide +kernel, by decide +kernel, by decide +kernel⟩
theorem mv_X11_element : MV yX11_element cX11_element 3 (some .long) 2 := ⟨q_1047, q_1048, q_58, q_1049, by decide +kernel, by decide +kernel, by decide +kernel⟩
theorem mv_X11_shift : MV yX11_shift cX11_shift 8 (some .int) 5 := ⟨q_1051, q_1052, q_58, q_1053, by decide +kernel, by decide +kernel, by decide +kernel⟩
theorem mv_X11_taken : MV yX11_taken cX11_taken 5 (some .int) 2 := ⟨q_1056, q_1057, q_58, q_1058, by decide +kernel, by decide +kernel, by decide +kernel⟩
theorem mv_X11_count : MV yX11_count cX11_count 2 (some .int) 1 := ⟨q_1063, q_1064, q_58, q_1065, by decide +kernel, by decide +kernel, by decide +kernel⟩
theorem dX11_who_0 : decode cX11_who 0 = .ok (.aload_n 0, 1) := by decide +kernel
theorem dX11_who_1 : decode cX11_who 1 = .ok (.iload_n 1, 1) := by decide +kernel
theorem dX11_who_2 : decode cX11_who 2 = .ok (.invokevirtual 86, 3) := by decide +kernel
theorem dX11_who_5 : decode cX11_who 5 = .ok (.istore_n 2, 1) := by decide +kernel
theorem dX11_who_6 : decode cX11_who 6 = .ok (.iload_n 2, 1) := by decide +kernel
theorem dX11_who_7 : decode cX11_who 7 = .ok (.ifCond .eq 7, 3) := by decide +kernel
theorem dX11_who_10 : decode cX11_who 10 = .ok (.iload_n 2, 1) := by decide +kernel
theorem dX11_who_11 : decode cX11_who 11 = .ok (.goto 16, 3) := by decide +kernel
theorem dX11_who_14 : decode cX11_who 14 = .ok (.aload_n 0, 1) := by decide +kernel
theorem dX11_who_15 : decode cX11_who 15 = .ok (.getfield 35, 3) := by decide +kernel
theorem dX11_who_18 : decode cX11_who 18 = .ok (.aload_n 0, 1) := by decide +kernel
theorem dX11_who_19 : decode cX11_who 19 = .ok (.getfield 81, 3) := by decide +kernel
theorem dX11_who_22 : decode cX11_who 22 = .ok (.iload_n 1, 1) := by decide +kernel
theorem dX11_who_23 : decode cX11_who 23 = .ok (.aaload, 1) := by decide +kernel
theorem dX11_who_24 : decode cX11_who 24 = .ok (.invokevirtual 244, 3) := by decide +kernel
theorem dX11_who_27 : decode cX11_who 27 = .ok (.ireturn, 1) := by decide +kernel
def f_X11_who (σ : St) (p1 : Int32) : Option (Int32 × St) := bnd2 (f_X11_refusedBytes σ p1) (fun r2 σ3 => if r2 = 0 then (chk (p1 < 0 ∨ 6 ≤ p1.toNatClampNeg) (bnd2 (f_X3_fitting σ3 ((p1.toNatClampNeg))) (fun r7 σ8 => some (r7, σ8)))) else (some (r2, σ3)))
set_option maxHeartbeats 4000000 in
set_option maxRecDepth 100000 in
theorem c_X11_who {l : Launch} {g : va_G} {ts : ClassId × ClassId × ClassId} {a : Nat → Nat} {σ : St} {p1 : Int32} {r : Int32} {σ' : St} (hf : f_X11_who σ p1 = some (r, σ')) : ConI l g ts (WC ts a) yX11_who cX11_who 3 (some .int) (rk 6 154) σ [.ref (a 0), .int p1] r σ' := by
  refine ConI_mk .int rfl rfl rfl rfl (by decide) (Nat.le_of_ble_eq_true rfl) ?_
  intro p e s m below meth c A Q ls C hQ hP hD hS hl
  have C : FX p s m _ meth c RX11 cX11_who 3 g ts A := C
  have hx := C.1
  have hb := C.2.1
  have hown := C.2.2.2.1
  have hts := C.2.2.2.2.1
  have hl : lv_has ls 3 [(0, .ref (a 0)), (1, .int p1)] := hl
  rw [f_X11_who] at hf
  refine lv_aload_n hx hb dX11_who_0 rfl (lv_at hl 0 rfl) ?_
  refine lv_iload_n hx hb dX11_who_1 rfl (lv_at hl 1 rfl) ?_
  obtain ⟨r2, σ3, h1, hf⟩ := bnd2_some hf
  refine vI [] C hP hD hS (c_X11_refusedBytes h1) mv_X11_refusedBytes q_421 rv_X11 dX11_who_2 ⟨Nat.le_of_ble_eq_true rfl, Nat.le_of_ble_eq_true rfl⟩ ⟨Nat.zero_le _, Nat.zero_le _⟩ rfl rfl (Nat.le_of_ble_eq_true rfl) hl.1 (fun H locs hP hD hS => ?_)
  refine lv_istore_n (lv' := [(2, .int r2), (0, .ref (a 0)), (1, .int p1)]) hx hb dX11_who_5 rfl hl (by decide) rfl (fun ls hl => ?_)
  refine lv_iload_n hx hb dX11_who_6 rfl (lv_at hl 0 rfl) ?_
  refine lv_if_eq (tgt := 14) hx hb dX11_who_7 (by decide) (fun c4 => ?_) (fun c4 => ?_)
  · replace hf := ipos c4 hf
    refine lv_aload_n hx hb dX11_who_14 rfl (lv_at hl 1 rfl) ?_
    refine G_X11_guess C hP q_383 dX11_who_15 ?_
    refine lv_aload_n hx hb dX11_who_18 rfl (lv_at hl 1 rfl) ?_
    refine G_X11_shelves C hP q_390 dX11_who_19 ?_
    refine lv_iload_n hx hb dX11_who_22 rfl (lv_at hl 2 rfl) ?_
    obtain ⟨h5, hf⟩ := chk_some hf
    refine AL_shelves C hP h5 dX11_who_23 ?_
    obtain ⟨r7, σ8, h6, hf⟩ := bnd2_some hf
    refine vI [] C hP hD hS (c_X3_fitting (Nat.not_le.mp fun q => h5 (Or.inr q)) h6) mv_X3_fitting q_853 rv_X3 dX11_who_24 ⟨Nat.le_of_ble_eq_true rfl, Nat.le_of_ble_eq_true rfl⟩ ⟨Nat.zero_le _, Nat.zero_le _⟩ rfl rfl (Nat.le_of_ble_eq_true rfl) hl.1 (fun H locs hP hD hS => ?_)
    exact retI hQ hf dX11_who_27 hP hD hS
  · replace hf := ineg c4 hf
    refine lv_iload_n hx hb dX11_who_10 rfl (lv_at hl 0 rfl) ?_
    refine lv_goto (tgt := 27) hx hb dX11_who_11 (by decide) ?_
    exact retI hQ hf dX11_who_27 hP hD hS
theorem dX11_odd_0 : decode cX11_odd 0 = .ok (.aload_n 0, 1) := by decide +kernel
theorem dX11_odd_1 : decode cX11_odd 1 = .ok (.iload_n 1, 1) := by decide +kernel
theorem dX11_odd_2 : decode cX11_odd 2 = .ok (.invokevirtual 86, 3) := by decide +kernel
theorem dX11_odd_5 : decode cX11_odd 5 = .ok (.istore_n 2, 1) := by decide +kernel
theorem dX11_odd_6 : decode cX11_odd 6 = .ok (.iload_n 2, 1) := by decide +kernel
theorem dX11_odd_7 : decode cX11_odd 7 = .ok (.ifCond .eq 5, 3) := by decide +kernel
theorem dX11_odd_10 : decode cX11_odd 10 = .ok (.iload_n 2, 1) := by decide +kernel
theorem dX11_odd_11 : decode cX11_odd 11 = .ok (.ireturn, 1) := by decide +kernel
theorem dX11_odd_12 : decode cX11_odd 12 = .ok (.aload_n 0, 1) := by decide +kernel
theorem dX11_odd_13 : decode cX11_odd 13 = .ok (.getfield 35, 3) := by decide +kernel
theorem dX11_odd_16 : decode cX11_odd 16 = .ok (.aload_n 0, 1) := by decide +kernel
theorem dX11_odd_17 : decode cX11_odd 17 = .ok (.getfield 81, 3) := by decide +kernel
theorem dX11_odd_20 : decode cX11_odd 20 = .ok (.iload_n 1, 1) := by decide +kernel
theorem dX11_odd_21 : decode cX11_odd 21 = .ok (.aaload, 1) := by decide +kernel
theorem dX11_odd_22 : decode cX11_odd 22 = .ok (.iconst (-1), 1) := by decide +kernel
theorem dX11_odd_23 : decode cX11_odd 23 = .ok (.invokevirtual 166, 3) := by decide +kernel
theorem dX11_odd_26 : decode cX11_odd 26 = .ok (.aload_n 0, 1) := by decide +kernel
theorem dX11_odd_27 : decode cX11_odd 27 = .ok (.getfield 35, 3) := by decide +kernel
theorem dX11_odd_30 : decode cX11_odd 30 = .ok (.invokevirtual 180, 3) := by decide +kernel
theorem dX11_odd_33 : decode cX11_odd 33 = .ok (.istore_n 3, 1) := by decide +kernel
theorem dX11_odd_34 : decode cX11_odd 34 = .ok (.iload_n 3, 1) := by decide +kernel
theorem dX11_odd_35 : decode cX11_odd 35 = .ok (.ifCond .ge 8, 3) := by decide +kernel
theorem dX11_odd_38 : decode cX11_odd 38 = .ok (.bipush (-2), 2) := by decide +kernel
theorem dX11_odd_40 : decode cX11_odd 40 = .ok (.goto 17, 3) := by decide +kernel
theorem dX11_odd_43 : decode cX11_odd 43 = .ok (.aload_n 0, 1) := by decide +kernel
theorem dX11_odd_44 : decode cX11_odd 44 = .ok (.getfield 19, 3) := by decide +kernel
theorem dX11_odd_47 : decode cX11_odd 47 = .ok (.iload_n 3, 1) := by decide +kernel
theorem dX11_odd_48 : decode cX11_odd 48 = .ok (.aload_n 0, 1) := by decide +kernel
theorem dX11_odd_49 : decode cX11_odd 49 = .ok (.getfield 81, 3) := by decide +kernel
theorem dX11_odd_52 : decode cX11_odd 52 = .ok (.iload_n 1, 1) := by decide +kernel
theorem dX11_odd_53 : decode cX11_odd 53 = .ok (.aaload, 1) := by decide +kernel
theorem dX11_odd_54 : decode cX11_odd 54 = .ok (.invokevirtual 248, 3) := by decide +kernel
theorem dX11_odd_57 : decode cX11_odd 57 = .ok (.ireturn, 1) := by decide +kernel
def f_X11_odd (σ : St) (p1 : Int32) : Option (Int32 × St) := bnd2 (f_X11_refusedBytes σ p1) (fun r2 σ3 => if r2 = 0 then (chk (p1 < 0 ∨ 6 ≤ p1.toNatClampNeg) (bnd1 (f_X3_weigh σ3 ((p1.toNatClampNeg)) (-1 : Int32)) (fun σ7 => bnd2 (f_X3_best σ7) (fun r9 σ10 => if 0 ≤ r9 then (chk (p1 < 0 ∨ 6 ≤ p1.toNatClampNeg) (bnd2 (f_X6_unlike σ10 ((p1.toNatClampNeg)) r9) (fun r14 σ15 => some (r14, σ15)))) else (some ((-2 : Int32), σ10)))))) else (some (r2, σ3)))
set_option maxHeartbeats 4000000 in
set_option maxRecDepth 100000 in
theorem c_X11_odd {l : Launch} {g : va_G} {ts : ClassId × ClassId × ClassId} {a : Nat → Nat} {σ : St} {p1 : Int32} {r : Int32} {σ' : St} (hf : f_X11_odd σ p1 = some (r, σ')) : ConI l g ts (WC ts a) yX11_odd cX11_odd 4 (some .int) (rk 5 133) σ [.ref (a 0), .int p1] r σ' := by
  refine ConI_mk .int rfl rfl rfl rfl (by decide) (Nat.le_of_ble_eq_true rfl) ?_
  intro p e s m below meth c A Q ls C hQ hP hD hS hl
  have C : FX p s m _ meth c RX11 cX11_odd 4 g ts A := C
  have hx := C.1
  have hb := C.2.1
  have hown := C.2.2.2.1
  have hts := C.2.2.2.2.1
  have hl : lv_has ls 4 [(0, .ref (a 0)), (1, .int p1)] := hl
  rw [f_X11_odd] at hf
  refine lv_aload_n hx hb dX11_odd_0 rfl (lv_at hl 0 rfl) ?_
  refine lv_iload_n hx hb dX11_odd_1 rfl (lv_at hl 1 rfl) ?_
  obtain ⟨r2, σ3, h1, hf⟩ := bnd2_some hf
  refine vI [] C hP hD hS (c_X11_refusedBytes h1) mv_X11_refusedBytes q_421 rv_X11 dX11_odd_2 ⟨Nat.le_of_ble_eq_true rfl, Nat.le_of_ble_eq_true rfl⟩ ⟨Nat.zero_le _, Nat.zero_le _⟩ rfl rfl (Nat.le_of_ble_eq_true rfl) hl.1 (fun H locs hP hD hS => ?_)
  refine lv_istore_n (lv' := [(2, .int r2), (0, .ref (a 0)), (1, .int p1)]) hx hb dX11_odd_5 rfl hl (by decide) rfl (fun ls hl => ?_)
  refine lv_iload_n hx hb dX11_odd_6 rfl (lv_at hl 0 rfl) ?_
  refine lv_if_eq (tgt := 12) hx hb dX11_odd_7 (by decide) (fun c4 => ?_) (fun c4 => ?_)
  · replace hf := ipos c4 hf
    refine lv_aload_n hx hb dX11_odd_12 rfl (lv_at hl 1 rfl) ?_
    refine G_X11_guess C hP q_383 dX11_odd_13 ?_
    refine lv_aload_n hx hb dX11_odd_16 rfl (lv_at hl 1 rfl) ?_
    refine G_X11_shelves C hP q_390 dX11_odd_17 ?_
    refine lv_iload_n hx hb dX11_odd_20 rfl (lv_at hl 2 rfl) ?_
    obtain ⟨h5, hf⟩ := chk_some hf
    refine AL_shelves C hP h5 dX11_odd_21 ?_
    refine lv_iconst (v := -1) hx hb dX11_odd_22 (by decide) ?_
    obtain ⟨σ7, h6, hf⟩ := bnd1_some hf
    refine vV [] C hP hD hS (c_X3_weigh (Nat.not_le.mp fun q => h5 (Or.inr q)) h6) mv_X3_weigh q_690 rv_X3 dX11_odd_23 ⟨Nat.le_of_ble_eq_true rfl, Nat.le_of_ble_eq_true rfl⟩ ⟨Nat.zero_le _, Nat.zero_le _⟩ rfl rfl (Nat.le_of_ble_eq_true rfl) hl.1 (fun H locs hP hD hS => ?_)
    refine lv_aload_n hx hb dX11_odd_26 rfl (lv_at hl 1 rfl) ?_
    refine G_X11_guess C hP q_383 dX11_odd_27 ?_
    obtain ⟨r9, σ10, h8, hf⟩ := bnd2_some hf
    refine vI [] C hP hD hS (c_X3_best h8) mv_X3_best q_711 rv_X3 dX11_odd_30 ⟨Nat.le_of_ble_eq_true rfl, Nat.le_of_ble_eq_true rfl⟩ ⟨Nat.zero_le _, Nat.zero_le _⟩ rfl rfl (Nat.le_of_ble_eq_true rfl) hl.1 (fun H locs hP hD hS => ?_)
    refine lv_istore_n (lv' := [(3, .int r9), (2, .int r2), (0, .ref (a 0)), (1, .int p1)]) hx hb dX11_odd_33 rfl hl (by decide) rfl (fun ls hl => ?_)
    refine lv_iload_n hx hb dX11_odd_34 rfl (lv_at hl 0 rfl) ?_
    refine lv_if_ge (tgt := 43) hx hb dX11_odd_35 (by decide) (fun c11 => ?_) (fun c11 => ?_)
    · replace hf := ipos c11 hf
      refine lv_aload_n hx hb dX11_odd_43 rfl (lv_at hl 2 rfl) ?_
      refine G_X11_names C hP q_381 dX11_odd_44 ?_
      refine lv_iload_n hx hb dX11_odd_47 rfl (lv_at hl 0 rfl) ?_
      refine lv_aload_n hx hb dX11_odd_48 rfl (lv_at hl 2 rfl) ?_
      refine G_X11_shelves C hP q_390 dX11_odd_49 ?_
      refine lv_iload_n hx hb dX11_odd_52 rfl (lv_at hl 3 rfl) ?_
      obtain ⟨h12, hf⟩ := chk_some hf
      refine AL_shelves C hP h12 dX11_odd_53 ?_
      obtain ⟨r14, σ15, h13, hf⟩ := bnd2_some hf
      refine vI [] C hP hD hS (c_X6_unlike (Nat.not_le.mp fun q => h12 (Or.inr q)) h13) mv_X6_unlike q_866 rv_X6 dX11_odd_54 ⟨Nat.le_of_ble_eq_true rfl, Nat.le_of_ble_eq_true rfl⟩ ⟨Nat.zero_le _, Nat.zero_le _⟩ rfl rfl (Nat.le_of_ble_eq_true rfl) hl.1 (fun H locs hP hD hS => ?_)
      exact retI hQ hf dX11_odd_57 hP hD hS
    · replace hf := ineg c11 hf
      refine lv_bipush (v := -2) hx hb dX11_odd_38 (by decide) ?_
      refine lv_goto (tgt := 57) hx hb dX11_odd_40 (by decide) ?_
      exact retI hQ hf dX11_odd_57 hP hD hS
  · replace hf := ineg c4 hf
    refine lv_iload_n hx hb dX11_odd_10 rfl (lv_at hl 0 rfl) ?_
    exact retI hQ hf dX11_odd_11 hP hD hS
theorem dX11_fits_0 : decode cX11_fits 0 = .ok (.aload_n 0, 1) := by decide +kernel
theorem dX11_fits_1 : decode cX11_fits 1 = .ok (.getfield 19, 3) := by decide +kernel
theorem dX11_fits_4 : decode cX11_fits 4 = .ok (.iload_n 2, 1) := by decide +kernel
theorem dX11_fits_5 : decode cX11_fits 5 = .ok (.invokevirtual 119, 3) := by decide +kernel
theorem dX11_fits_8 : decode cX11_fits 8 = .ok (.ifCond .eq 11, 3) := by decide +kernel
theorem dX11_fits_11 : decode cX11_fits 11 = .ok (.aload_n 0, 1) := by decide +kernel
theorem dX11_fits_12 : decode cX11_fits 12 = .ok (.iload_n 1, 1) := by decide +kernel
theorem dX11_fits_13 : decode cX11_fits 13 = .ok (.invokevirtual 86, 3) := by decide +kernel
theorem dX11_fits_16 : decode cX11_fits 16 = .ok (.goto 4, 3) := by decide +kernel
theorem dX11_fits_19 : decode cX11_fits 19 = .ok (.iconst (-1), 1) := by decide +kernel
theorem dX11_fits_20 : decode cX11_fits 20 = .ok (.istore_n 3, 1) := by decide +kernel
theorem dX11_fits_21 : decode cX11_fits 21 = .ok (.iload_n 3, 1) := by decide +kernel
theorem dX11_fits_22 : decode cX11_fits 22 = .ok (.ifCond .eq 7, 3) := by decide +kernel
theorem dX11_fits_25 : decode cX11_fits 25 = .ok (.iload_n 3, 1) := by decide +kernel
theorem dX11_fits_26 : decode cX11_fits 26 = .ok (.goto 17, 3) := by decide +kernel
theorem dX11_fits_29 : decode cX11_fits 29 = .ok (.aload_n 0, 1) := by decide +kernel
theorem dX11_fits_30 : decode cX11_fits 30 = .ok (.getfield 35, 3) := by decide +kernel
theorem dX11_fits_33 : decode cX11_fits 33 = .ok (.aload_n 0, 1) := by decide +kernel
theorem dX11_fits_34 : decode cX11_fits 34 = .ok (.getfield 81, 3) := by decide +kernel
theorem dX11_fits_37 : decode cX11_fits 37 = .ok (.iload_n 1, 1) := by decide +kernel
theorem dX11_fits_38 : decode cX11_fits 38 = .ok (.aaload, 1) := by decide +kernel
theorem dX11_fits_39 : decode cX11_fits 39 = .ok (.iload_n 2, 1) := by decide +kernel
theorem dX11_fits_40 : decode cX11_fits 40 = .ok (.invokevirtual 252, 3) := by decide +kernel
theorem dX11_fits_43 : decode cX11_fits 43 = .ok (.ireturn, 1) := by decide +kernel
def f_X11_fits_b20 (σ : St) (x1 : Int32) (x2 : Int32) (s0 : Int32) : Option (Int32 × St) := if s0 = 0 then (chk (x1 < 0 ∨ 6 ≤ x1.toNatClampNeg) (bnd2 (f_X3_misfit σ ((x1.toNatClampNeg)) x2) (fun r11 σ12 => some (r11, σ12)))) else (some (s0, σ))
def f_X11_fits (σ : St) (p1 : Int32) (p2 : Int32) : Option (Int32 × St) := bnd2 (f_X6_has σ p2) (fun r2 σ3 => if r2 = 0 then (f_X11_fits_b20 σ3 p1 p2 (-1 : Int32)) else (bnd2 (f_X11_refusedBytes σ3 p1) (fun r6 σ7 => f_X11_fits_b20 σ7 p1 p2 r6)))
set_option maxHeartbeats 4000000 in
set_option maxRecDepth 100000 in
theorem w_X11_fits_b20 {p : Program} {l : Launch} {e : Env} {s : State} {m : MethodId} {args : Array Value} {below : List Frame} {meth : Method} {c : Code} {g : va_G} {ts : ClassId × ClassId × ClassId} {A : Nat → Prop} {Q : State → Prop} {a : Nat → Nat} {r : Int32} {σ' : St} (C : FX p s m args meth c RX11 cX11_fits 4 g ts A) (hQ : RetI p l e (rk 5 131) s m args below meth c cX11_fits g (WC ts a) A r σ' Q) : ∀ (σ : St) (x1 : Int32) (x2 : Int32) (s0 : Int32) (H : Heap) (locs : List Loc) (ls : Array Slot), f_X11_fits_b20 σ x1 x2 s0 = some (r, σ') → va_P g classes (WC ts a σ) H → va_D A (WC ts a σ) → va_S A s.heap H locs → lv_has ls 4 [(0, .ref (a 0)), (1, .int x1), (2, .int x2)] → W p l e (rk 5 131) s m args below meth c H locs 0 0 Q (F0 m 20 ls [.int s0]) := by
  have hx := C.1
  have hb := C.2.1
  have hown := C.2.2.2.1
  have hts := C.2.2.2.2.1
  intro σ x1 x2 s0 H locs ls hf hP hD hS hl
  rw [f_X11_fits_b20] at hf
  refine lv_istore_n (lv' := [(3, .int s0), (0, .ref (a 0)), (1, .int x1), (2, .int x2)]) hx hb dX11_fits_20 rfl hl (by decide) rfl (fun ls hl => ?_)
  refine lv_iload_n hx hb dX11_fits_21 rfl (lv_at hl 0 rfl) ?_
  refine lv_if_eq (tgt := 29) hx hb dX11_fits_22 (by decide) (fun c8 => ?_) (fun c8 => ?_)
  · replace hf := ipos c8 hf
    refine lv_aload_n hx hb dX11_fits_29 rfl (lv_at hl 1 rfl) ?_
    refine G_X11_guess C hP q_383 dX11_fits_30 ?_
    refine lv_aload_n hx hb dX11_fits_33 rfl (lv_at hl 1 rfl) ?_
    refine G_X11_shelves C hP q_390 dX11_fits_34 ?_
    refine lv_iload_n hx hb dX11_fits_37 rfl (lv_at hl 2 rfl) ?_
    obtain ⟨h9, hf⟩ := chk_some hf
    refine AL_shelves C hP h9 dX11_fits_38 ?_
    refine lv_iload_n hx hb dX11_fits_39 rfl (lv_at hl 3 rfl) ?_
    obtain ⟨r11, σ12, h10, hf⟩ := bnd2_some hf
    refine vI [] C hP hD hS (c_X3_misfit (Nat.not_le.mp fun q => h9 (Or.inr q)) h10) mv_X3_misfit q_874 rv_X3 dX11_fits_40 ⟨Nat.le_of_ble_eq_true rfl, Nat.le_of_ble_eq_true rfl⟩ ⟨Nat.zero_le _, Nat.zero_le _⟩ rfl rfl (Nat.le_of_ble_eq_true rfl) hl.1 (fun H locs hP hD hS => ?_)
    exact retI hQ hf dX11_fits_43 hP hD hS
  · replace hf := ineg c8 hf
    refine lv_iload_n hx hb dX11_fits_25 rfl (lv_at hl 0 rfl) ?_
    refine lv_goto (tgt := 43) hx hb dX11_fits_26 (by decide) ?_
    exact retI hQ hf dX11_fits_43 hP hD hS
set_option maxHeartbeats 4000000 in
set_option maxRecDepth 100000 in
theorem c_X11_fits {l : Launch} {g : va_G} {ts : ClassId × ClassId × ClassId} {a : Nat → Nat} {σ : St} {p1 : Int32} {p2 : Int32} {r : Int32} {σ' : St} (hf : f_X11_fits σ p1 p2 = some (r, σ')) : ConI l g ts (WC ts a) yX11_fits cX11_fits 4 (some .int) (rk 5 131) σ [.ref (a 0), .int p1, .int p2] r σ' := by
  refine ConI_mk .int rfl rfl rfl rfl (by decide) (Nat.le_of_ble_eq_true rfl) ?_
  intro p e s m below meth c A Q ls C hQ hP hD hS hl
  have C : FX p s m _ meth c RX11 cX11_fits 4 g ts A := C
  have hx := C.1
  have hb := C.2.1
  have hown := C.2.2.2.1
  have hts := C.2.2.2.2.1
  have hl : lv_has ls 4 [(0, .ref (a 0)), (1, .int p1), (2, .int p2)] := hl
  rw [f_X11_fits] at hf
  refine lv_aload_n hx hb dX11_fits_0 rfl (lv_at hl 0 rfl) ?_
  refine G_X11_names C hP q_381 dX11_fits_1 ?_
  refine lv_iload_n hx hb dX11_fits_4 rfl (lv_at hl 2 rfl) ?_
  obtain ⟨r2, σ3, h1, hf⟩ := bnd2_some hf
  refine vI [] C hP hD hS (c_X6_has h1) mv_X6_has q_465 rv_X6 dX11_fits_5 ⟨Nat.le_of_ble_eq_true rfl, Nat.le_of_ble_eq_true rfl⟩ ⟨Nat.zero_le _, Nat.zero_le _⟩ rfl rfl (Nat.le_of_ble_eq_true rfl) hl.1 (fun H locs hP hD hS => ?_)
  refine lv_if_eq (tgt := 19) hx hb dX11_fits_8 (by decide) (fun c4 => ?_) (fun c4 => ?_)
  · replace hf := ipos c4 hf
    refine lv_iconst (v := -1) hx hb dX11_fits_19 (by decide) ?_
    exact w_X11_fits_b20 C hQ _ _ _ _ _ _ _ hf hP hD hS (lv_sub hl [0, 1, 2] rfl)
  · replace hf := ineg c4 hf
    refine lv_aload_n hx hb dX11_fits_11 rfl (lv_at hl 0 rfl) ?_
    refine lv_iload_n hx hb dX11_fits_12 rfl (lv_at hl 1 rfl) ?_
    obtain ⟨r6, σ7, h5, hf⟩ := bnd2_some hf
    refine vI [] C hP hD hS (c_X11_refusedBytes h5) mv_X11_refusedBytes q_421 rv_X11 dX11_fits_13 ⟨Nat.le_of_ble_eq_true rfl, Nat.le_of_ble_eq_true rfl⟩ ⟨Nat.zero_le _, Nat.zero_le _⟩ rfl rfl (Nat.le_of_ble_eq_true rfl) hl.1 (fun H locs hP hD hS => ?_)
    refine lv_goto (tgt := 20) hx hb dX11_fits_16 (by decide) ?_
    exact w_X11_fits_b20 C hQ _ _ _ _ _ _ _ hf hP hD hS (lv_sub hl [0, 1, 2] rfl)
theorem dX11_drawn_0 : decode cX11_drawn 0 = .ok (.iload_n 2, 1) := by decide +kernel
theorem dX11_drawn_1 : decode cX11_drawn 1 = .ok (.bipush 100, 2) := by decide +kernel
theorem dX11_drawn_3 : decode cX11_drawn 3 = .ok (.irem, 1) := by decide +kernel
theorem dX11_drawn_4 : decode cX11_drawn 4 = .ok (.istore 4, 2) := by decide +kernel
theorem dX11_drawn_6 : decode cX11_drawn 6 = .ok (.iload_n 2, 1) := by decide +kernel
theorem dX11_drawn_7 : decode cX11_drawn 7 = .ok (.ifCond .lt 39, 3) := by decide +kernel
theorem dX11_drawn_10 : decode cX11_drawn 10 = .ok (.aload_n 0, 1) := by decide +kernel
theorem dX11_drawn_11 : decode cX11_drawn 11 = .ok (.getfield 19, 3) := by decide +kernel
theorem dX11_drawn_14 : decode cX11_drawn 14 = .ok (.iload_n 2, 1) := by decide +kernel
theorem dX11_drawn_15 : decode cX11_drawn 15 = .ok (.bipush 100, 2) := by decide +kernel
theorem dX11_drawn_17 : decode cX11_drawn 17 = .ok (.idiv, 1) := by decide +kernel
theorem dX11_drawn_18 : decode cX11_drawn 18 = .ok (.invokevirtual 119, 3) := by decide +kernel
theorem dX11_drawn_21 : decode cX11_drawn 21 = .ok (.ifCond .eq 25, 3) := by decide +kernel
theorem dX11_drawn_24 : decode cX11_drawn 24 = .ok (.iload 4, 2) := by decide +kernel
theorem dX11_drawn_26 : decode cX11_drawn 26 = .ok (.iconst 1, 1) := by decide +kernel
theorem dX11_drawn_27 : decode cX11_drawn 27 = .ok (.if_icmp .lt 19, 3) := by decide +kernel
theorem dX11_drawn_30 : decode cX11_drawn 30 = .ok (.iload 4, 2) := by decide +kernel
theorem dX11_drawn_32 : decode cX11_drawn 32 = .ok (.bipush 30, 2) := by decide +kernel
theorem dX11_drawn_34 : decode cX11_drawn 34 = .ok (.if_icmp .gt 12, 3) := by decide +kernel
theorem dX11_drawn_37 : decode cX11_drawn 37 = .ok (.iload_n 3, 1) := by decide +kernel
theorem dX11_drawn_38 : decode cX11_drawn 38 = .ok (.ifCond .lt 8, 3) := by decide +kernel
theorem dX11_drawn_41 : decode cX11_drawn 41 = .ok (.iload_n 3, 1) := by decide +kernel
theorem dX11_drawn_42 : decode cX11_drawn 42 = .ok (.iconst 1, 1) := by decide +kernel
theorem dX11_drawn_43 : decode cX11_drawn 43 = .ok (.if_icmp .le 5, 3) := by decide +kernel
theorem dX11_drawn_46 : decode cX11_drawn 46 = .ok (.iconst (-1), 1) := by decide +kernel
theorem dX11_drawn_47 : decode cX11_drawn 47 = .ok (.ireturn, 1) := by decide +kernel
theorem dX11_drawn_48 : decode cX11_drawn 48 = .ok (.aload_n 0, 1) := by decide +kernel
theorem dX11_drawn_49 : decode cX11_drawn 49 = .ok (.getfield 28, 3) := by decide +kernel
theorem dX11_drawn_52 : decode cX11_drawn 52 = .ok (.iload_n 2, 1) := by decide +kernel
theorem dX11_drawn_53 : decode cX11_drawn 53 = .ok (.bipush 100, 2) := by decide +kernel
theorem dX11_drawn_55 : decode cX11_drawn 55 = .ok (.idiv, 1) := by decide +kernel
theorem dX11_drawn_56 : decode cX11_drawn 56 = .ok (.iload 4, 2) := by decide +kernel
theorem dX11_drawn_58 : decode cX11_drawn 58 = .ok (.iload_n 1, 1) := by decide +kernel
theorem dX11_drawn_59 : decode cX11_drawn 59 = .ok (.iload_n 3, 1) := by decide +kernel
theorem dX11_drawn_60 : decode cX11_drawn 60 = .ok (.iconst 1, 1) := by decide +kernel
theorem dX11_drawn_61 : decode cX11_drawn 61 = .ok (.if_icmp .ne 7, 3) := by decide +kernel
theorem dX11_drawn_64 : decode cX11_drawn 64 = .ok (.iconst 1, 1) := by decide +kernel
theorem dX11_drawn_65 : decode cX11_drawn 65 = .ok (.goto 4, 3) := by decide +kernel
theorem dX11_drawn_68 : decode cX11_drawn 68 = .ok (.iconst 0, 1) := by decide +kernel
theorem dX11_drawn_69 : decode cX11_drawn 69 = .ok (.invokevirtual 256, 3) := by decide +kernel
theorem dX11_drawn_72 : decode cX11_drawn 72 = .ok (.ireturn, 1) := by decide +kernel
def f_X11_drawn_b69 (σ : St) (s0 : Int32) (s1 : Int32) (s2 : Int32) (s3 : Int32) : Option (Int32 × St) := bnd2 (f_X9_draws σ s3 s2 s1 s0) (fun r13 σ14 => some (r13, σ14))
def f_X11_drawn (σ : St) (p1 : Int32) (p2 : Int32) (p3 : Int32) : Option (Int32 × St) := bnd (p2 - p2 / (100 : Int32) * (100 : Int32)) (fun v1 => if p2 < 0 then (some ((-1 : Int32), σ)) else (bnd2 (f_X6_has σ (p2 / (100 : Int32))) (fun r4 σ5 => if r4 = 0 then (some ((-1 : Int32), σ5)) else (if v1 < (1 : Int32) then (some ((-1 : Int32), σ5)) else (if (30 : Int32) < v1 then (some ((-1 : Int32), σ5)) else (if p3 < 0 then (some ((-1 : Int32), σ5)) else (if p3 ≤ (1 : Int32) then (if p3 = (1 : Int32) then (f_X11_drawn_b69 σ5 (1 : Int32) p1 v1 (p2 / (100 : Int32))) else (f_X11_drawn_b69 σ5 (0 : Int32) p1 v1 (p2 / (100 : Int32)))) else (some ((-1 : Int32), σ5)))))))))
set_option maxHeartbeats 4000000 in
set_option maxRecDepth 100000 in
theorem w_X11_drawn_b69 {p : Program} {l : Launch} {e : Env} {s : State} {m : MethodId} {args : Array Value} {below : List Frame} {meth : Method} {c : Code} {g : va_G} {ts : ClassId × ClassId × ClassId} {A : Nat → Prop} {Q : State → Prop} {a : Nat → Nat} {r : Int32} {σ' : St} (C : FX p s m args meth c RX11 cX11_drawn 5 g ts A) (hQ : RetI p l e (rk 6 162) s m args below meth c cX11_drawn g (WC ts a) A r σ' Q) : ∀ (σ : St) (s0 : Int32) (s1 : Int32) (s2 : Int32) (s3 : Int32) (H : Heap) (locs : List Loc) (ls : Array Slot), f_X11_drawn_b69 σ s0 s1 s2 s3 = some (r, σ') → va_P g classes (WC ts a σ) H → va_D A (WC ts a σ) → va_S A s.heap H locs → lv_has ls 5 [] → W p l e (rk 6 162) s m args below meth c H locs 0 0 Q (F0 m 69 ls [.int s0, .int s1, .int s2, .int s3, .ref (a 12)]) := by
  have hx := C.1
  have hb := C.2.1
  have hown := C.2.2.2.1
  have hts := C.2.2.2.2.1
  intro σ s0 s1 s2 s3 H locs ls hf hP hD hS hl
  rw [f_X11_drawn_b69] at hf
  obtain ⟨r13, σ14, h12, hf⟩ := bnd2_some hf
  refine vI [] C hP hD hS (c_X9_draws h12) mv_X9_draws q_879 rv_X9 dX11_drawn_69 ⟨Nat.le_of_ble_eq_true rfl, Nat.le_of_ble_eq_true rfl⟩ ⟨Nat.zero_le _, Nat.zero_le _⟩ rfl rfl (Nat.le_of_ble_eq_true rfl) hl.1 (fun H locs hP hD hS => ?_)
  exact retI hQ hf dX11_drawn_72 hP hD hS
set_option maxHeartbeats 4000000 in
set_option maxRecDepth 100000 in
theorem c_X11_drawn {l : Launch} {g : va_G} {ts : ClassId × ClassId × ClassId} {a : Nat → Nat} {σ : St} {p1 : Int32} {p2 : Int32} {p3 : Int32} {r : Int32} {σ' : St} (hf : f_X11_drawn σ p1 p2 p3 = some (r, σ')) : ConI l g ts (WC ts a) yX11_drawn cX11_drawn 5 (some .int) (rk 6 162) σ [.ref (a 0), .int p1, .int p2, .int p3] r σ' := by
  refine ConI_mk .int rfl rfl rfl rfl (by decide) (Nat.le_of_ble_eq_true rfl) ?_
  intro p e s m below meth c A Q ls C hQ hP hD hS hl
  have C : FX p s m _ meth c RX11 cX11_drawn 5 g ts A := C
  have hx := C.1
  have hb := C.2.1
  have hown := C.2.2.2.1
  have hts := C.2.2.2.2.1
  have hl : lv_has ls 5 [(0, .ref (a 0)), (1, .int p1), (2, .int p2), (3, .int p3)] := hl
  rw [f_X11_drawn] at hf
  refine lv_iload_n hx hb dX11_drawn_0 rfl (lv_at hl 2 rfl) ?_
  refine lv_bipush (v := 100) hx hb dX11_drawn_1 (by decide) ?_
  refine lv_irem hx hb dX11_drawn_3 (by decide) ?_
  refine lv_topi (fun v1 ev1 => ?_)
  replace hf := bnd_at ev1 hf
  refine lv_istore (lv' := [(4, .int v1), (0, .ref (a 0)), (1, .int p1), (2, .int p2), (3, .int p3)]) hx hb dX11_drawn_4 hl (by decide) rfl (fun ls hl => ?_)
  refine lv_iload_n hx hb dX11_drawn_6 rfl (lv_at hl 3 rfl) ?_
  refine lv_if_lt (tgt := 46) hx hb dX11_drawn_7 (by decide) (fun c2 => ?_) (fun c2 => ?_)
  · replace hf := ipos c2 hf
    refine lv_iconst (v := -1) hx hb dX11_drawn_46 (by decide) ?_
    exact retI hQ hf dX11_drawn_47 hP hD hS
  · replace hf := ineg c2 hf
    refine lv_aload_n hx hb dX11_drawn_10 rfl (lv_at hl 1 rfl) ?_
    refine G_X11_names C hP q_381 dX11_drawn_11 ?_
    refine lv_iload_n hx hb dX11_drawn_14 rfl (lv_at hl 3 rfl) ?_
    refine lv_bipush (v := 100) hx hb dX11_drawn_15 (by decide) ?_
    refine lv_idiv hx hb dX11_drawn_17 (by decide) ?_
    obtain ⟨r4, σ5, h3, hf⟩ := bnd2_some hf
    refine vI [] C hP hD hS (c_X6_has h3) mv_X6_has q_465 rv_X6 dX11_drawn_18 ⟨Nat.le_of_ble_eq_true rfl, Nat.le_of_ble_eq_true rfl⟩ ⟨Nat.zero_le _, Nat.zero_le _⟩ rfl rfl (Nat.le_of_ble_eq_true rfl) hl.1 (fun H locs hP hD hS => ?_)
    refine lv_if_eq (tgt := 46) hx hb dX11_drawn_21 (by decide) (fun c6 => ?_) (fun c6 => ?_)
    · replace hf := ipos c6 hf
      refine lv_iconst (v := -1) hx hb dX11_drawn_46 (by decide) ?_
      exact retI hQ hf dX11_drawn_47 hP hD hS
    · replace hf := ineg c6 hf
      refine lv_iload hx hb dX11_drawn_24 (lv_at hl 0 rfl) ?_
      refine lv_iconst (v := 1) hx hb dX11_drawn_26 (by decide) ?_
      refine lv_icmp_lt (tgt := 46) hx hb dX11_drawn_27 (by decide) (fun c7 => ?_) (fun c7 => ?_)
      · replace hf := ipos c7 hf
        refine lv_iconst (v := -1) hx hb dX11_drawn_46 (by decide) ?_
        exact retI hQ hf dX11_drawn_47 hP hD hS
      · replace hf := ineg c7 hf
        refine lv_iload hx hb dX11_drawn_30 (lv_at hl 0 rfl) ?_
        refine lv_bipush (v := 30) hx hb dX11_drawn_32 (by decide) ?_
        refine lv_icmp_gt (tgt := 46) hx hb dX11_drawn_34 (by decide) (fun c8 => ?_) (fun c8 => ?_)
        · replace hf := ipos c8 hf
          refine lv_iconst (v := -1) hx hb dX11_drawn_46 (by decide) ?_
          exact retI hQ hf dX11_drawn_47 hP hD hS
        · replace hf := ineg c8 hf
          refine lv_iload_n hx hb dX11_drawn_37 rfl (lv_at hl 4 rfl) ?_
          refine lv_if_lt (tgt := 46) hx hb dX11_drawn_38 (by decide) (fun c9 => ?_) (fun c9 => ?_)
          · replace hf := ipos c9 hf
            refine lv_iconst (v := -1) hx hb dX11_drawn_46 (by decide) ?_
            exact retI hQ hf dX11_drawn_47 hP hD hS
          · replace hf := ineg c9 hf
            refine lv_iload_n hx hb dX11_drawn_41 rfl (lv_at hl 4 rfl) ?_
            refine lv_iconst (v := 1) hx hb dX11_drawn_42 (by decide) ?_
            refine lv_icmp_le (tgt := 48) hx hb dX11_drawn_43 (by decide) (fun c10 => ?_) (fun c10 => ?_)
            · replace hf := ipos c10 hf
              refine lv_aload_n hx hb dX11_drawn_48 rfl (lv_at hl 1 rfl) ?_
              refine G_X11_speech C hP q_382 dX11_drawn_49 ?_
              refine lv_iload_n hx hb dX11_drawn_52 rfl (lv_at hl 3 rfl) ?_
              refine lv_bipush (v := 100) hx hb dX11_drawn_53 (by decide) ?_
              refine lv_idiv hx hb dX11_drawn_55 (by decide) ?_
              refine lv_iload hx hb dX11_drawn_56 (lv_at hl 0 rfl) ?_
              refine lv_iload_n hx hb dX11_drawn_58 rfl (lv_at hl 2 rfl) ?_
              refine lv_iload_n hx hb dX11_drawn_59 rfl (lv_at hl 4 rfl) ?_
              refine lv_iconst (v := 1) hx hb dX11_drawn_60 (by decide) ?_
              refine lv_icmp_ne (tgt := 68) hx hb dX11_drawn_61 (by decide) (fun c11 => ?_) (fun c11 => ?_)
              · replace hf := ineg c11 hf
                refine lv_iconst (v := 0) hx hb dX11_drawn_68 (by decide) ?_
                exact w_X11_drawn_b69 C hQ _ _ _ _ _ _ _ _ hf hP hD hS (lv_sub hl [] rfl)
              · replace hf := ipos c11 hf
                refine lv_iconst (v := 1) hx hb dX11_drawn_64 (by decide) ?_
                refine lv_goto (tgt := 69) hx hb dX11_drawn_65 (by decide) ?_
                exact w_X11_drawn_b69 C hQ _ _ _ _ _ _ _ _ hf hP hD hS (lv_sub hl [] rfl)
            · replace hf := ineg c10 hf
              refine lv_iconst (v := -1) hx hb dX11_drawn_46 (by decide) ?_
              exact retI hQ hf dX11_drawn_47 hP hD hS
theorem dX11_call_0 : decode cX11_call 0 = .ok (.aload_n 0, 1) := by decide +kernel
theorem dX11_call_1 : decode cX11_call 1 = .ok (.getfield 19, 3) := by decide +kernel
theorem dX11_call_4 : decode cX11_call 4 = .ok (.iload_n 1, 1) := by decide +kernel
theorem dX11_call_5 : decode cX11_call 5 = .ok (.invokevirtual 119, 3) := by decide +kernel
theorem dX11_call_8 : decode cX11_call 8 = .ok (.ifCond .ne 5, 3) := by decide +kernel
theorem dX11_call_11 : decode cX11_call 11 = .ok (.iconst (-1), 1) := by decide +kernel
theorem dX11_call_12 : decode cX11_call 12 = .ok (.ireturn, 1) := by decide +kernel
theorem dX11_call_13 : decode cX11_call 13 = .ok (.aload_n 0, 1) := by decide +kernel
theorem dX11_call_14 : decode cX11_call 14 = .ok (.getfield 65, 3) := by decide +kernel
theorem dX11_call_17 : decode cX11_call 17 = .ok (.getfield 260, 3) := by decide +kernel
theorem dX11_call_20 : decode cX11_call 20 = .ok (.ifCond .lt 6, 3) := by decide +kernel
theorem dX11_call_23 : decode cX11_call 23 = .ok (.bipush (-5), 2) := by decide +kernel
theorem dX11_call_25 : decode cX11_call 25 = .ok (.ireturn, 1) := by decide +kernel
theorem dX11_call_26 : decode cX11_call 26 = .ok (.aload_n 0, 1) := by decide +kernel
theorem dX11_call_27 : decode cX11_call 27 = .ok (.getfield 65, 3) := by decide +kernel
theorem dX11_call_30 : decode cX11_call 30 = .ok (.iload_n 1, 1) := by decide +kernel
theorem dX11_call_31 : decode cX11_call 31 = .ok (.iload_n 2, 1) := by decide +kernel
theorem dX11_call_32 : decode cX11_call 32 = .ok (.invokevirtual 263, 3) := by decide +kernel
theorem dX11_call_35 : decode cX11_call 35 = .ok (.aload_n 0, 1) := by decide +kernel
theorem dX11_call_36 : decode cX11_call 36 = .ok (.getfield 19, 3) := by decide +kernel
theorem dX11_call_39 : decode cX11_call 39 = .ok (.getfield 123, 3) := by decide +kernel
theorem dX11_call_42 : decode cX11_call 42 = .ok (.iload_n 1, 1) := by decide +kernel
theorem dX11_call_43 : decode cX11_call 43 = .ok (.iaload, 1) := by decide +kernel
theorem dX11_call_44 : decode cX11_call 44 = .ok (.ireturn, 1) := by decide +kernel
def f_X11_call (σ : St) (p1 : Int32) (p2 : Int32) : Option (Int32 × St) := bnd2 (f_X6_has σ p1) (fun r2 σ3 => if r2 = 0 then (some ((-1 : Int32), σ3)) else (if σ3.1 52 0 < 0 then (bnd1 (f_X1_begin σ3 0 p1 p2) (fun σ7 => chk (p1 < 0 ∨ 10 ≤ p1.toNatClampNeg) (some (σ7.2.2.1 301 0 p1.toNatClampNeg, σ7)))) else (some ((-5 : Int32), σ3))))
set_option maxHeartbeats 4000000 in
set_option maxRecDepth 100000 in
theorem c_X11_call {l : Launch} {g : va_G} {ts : ClassId × ClassId × ClassId} {a : Nat → Nat} {σ : St} {p1 : Int32} {p2 : Int32} {r : Int32} {σ' : St} (hf : f_X11_call σ p1 p2 = some (r, σ')) : ConI l g ts (WC ts a) yX11_call cX11_call 3 (some .int) (rk 2 45) σ [.ref (a 0), .int p1, .int p2] r σ' := by
  refine ConI_mk .int rfl rfl rfl rfl (by decide) (Nat.le_of_ble_eq_true rfl) ?_
  intro p e s m below meth c A Q ls C hQ hP hD hS hl
  have C : FX p s m _ meth c RX11 cX11_call 3 g ts A := C
  have hx := C.1
  have hb := C.2.1
  have hown := C.2.2.2.1
  have hts := C.2.2.2.2.1
  have hl : lv_has ls 3 [(0, .ref (a 0)), (1, .int p1), (2, .int p2)] := hl
  rw [f_X11_call] at hf
  refine lv_aload_n hx hb dX11_call_0 rfl (lv_at hl 0 rfl) ?_
  refine G_X11_names C hP q_381 dX11_call_1 ?_
  refine lv_iload_n hx hb dX11_call_4 rfl (lv_at hl 1 rfl) ?_
  obtain ⟨r2, σ3, h1, hf⟩ := bnd2_some hf
  refine vI [] C hP hD hS (c_X6_has h1) mv_X6_has q_465 rv_X6 dX11_call_5 ⟨Nat.le_of_ble_eq_true rfl, Nat.le_of_ble_eq_true rfl⟩ ⟨Nat.zero_le _, Nat.zero_le _⟩ rfl rfl (Nat.le_of_ble_eq_true rfl) hl.1 (fun H locs hP hD hS => ?_)
  refine lv_if_ne (tgt := 13) hx hb dX11_call_8 (by decide) (fun c4 => ?_) (fun c4 => ?_)
  · replace hf := ineg c4 hf
    refine lv_aload_n hx hb dX11_call_13 rfl (lv_at hl 0 rfl) ?_
    refine G_X11_deed C hP q_387 dX11_call_14 ?_
    refine G_X1_name (show (0 : Nat) < 2 from by decide) C hP q_304 dX11_call_17 ?_
    refine lv_if_lt (tgt := 26) hx hb dX11_call_20 (by decide) (fun c5 => ?_) (fun c5 => ?_)
    · replace hf := ipos c5 hf
      refine lv_aload_n hx hb dX11_call_26 rfl (lv_at hl 0 rfl) ?_
      refine G_X11_deed C hP q_387 dX11_call_27 ?_
      refine lv_iload_n hx hb dX11_call_30 rfl (lv_at hl 1 rfl) ?_
      refine lv_iload_n hx hb dX11_call_31 rfl (lv_at hl 2 rfl) ?_
      obtain ⟨σ7, h6, hf⟩ := bnd1_some hf
      refine vV [] C hP hD hS (c_X1_begin (show (0 : Nat) < 2 from by decide) h6) mv_X1_begin q_898 (rv_X1 (show (0 : Nat) < 2 from by decide)) dX11_call_32 ⟨Nat.le_of_ble_eq_true rfl, Nat.le_of_ble_eq_true rfl⟩ ⟨Nat.zero_le _, Nat.zero_le _⟩ rfl rfl (Nat.le_of_ble_eq_true rfl) hl.1 (fun H locs hP hD hS => ?_)
      refine lv_aload_n hx hb dX11_call_35 rfl (lv_at hl 0 rfl) ?_
      refine G_X11_names C hP q_381 dX11_call_36 ?_
      refine G_X6_sizes C hP q_159 dX11_call_39 ?_
      refine lv_iload_n hx hb dX11_call_42 rfl (lv_at hl 1 rfl) ?_
      obtain ⟨h8, hf⟩ := chk_some hf
      refine AL_X6_sizes C hP h8 dX11_call_43 ?_
      exact retI hQ hf dX11_call_44 hP hD hS
    · replace hf := ineg c5 hf
      refine lv_bipush (v := -5) hx hb dX11_call_23 (by decide) ?_
      exact retI hQ hf dX11_call_25 hP hD hS
  · replace hf := ipos c4 hf
    refine lv_iconst (v := -1) hx hb dX11_call_11 (by decide) ?_
    exact retI hQ hf dX11_call_12 hP hD hS
theorem dX11_refusedPlace_0 : decode cX11_refusedPlace 0 = .ok (.iload_n 1, 1) := by decide +kernel
theorem dX11_refusedPlace_1 : decode cX11_refusedPlace 1 = .ok (.ifCond .lt 9, 3) := by decide +kernel
theorem dX11_refusedPlace_4 : decode cX11_refusedPlace 4 = .ok (.iload_n 1, 1) := by decide +kernel
theorem dX11_refusedPlace_5 : decode cX11_refusedPlace 5 = .ok (.bipush 6, 2) := by decide +kernel
theorem dX11_refusedPlace_7 : decode cX11_refusedPlace 7 = .ok (.if_icmp .lt 5, 3) := by decide +kernel
theorem dX11_refusedPlace_10 : decode cX11_refusedPlace 10 = .ok (.iconst (-1), 1) := by decide +kernel
theorem dX11_refusedPlace_11 : decode cX11_refusedPlace 11 = .ok (.ireturn, 1) := by decide +kernel
theorem dX11_refusedPlace_12 : decode cX11_refusedPlace 12 = .ok (.aload_n 0, 1) := by decide +kernel
theorem dX11_refusedPlace_13 : decode cX11_refusedPlace 13 = .ok (.getfield 65, 3) := by decide +kernel
theorem dX11_refusedPlace_16 : decode cX11_refusedPlace 16 = .ok (.getfield 260, 3) := by decide +kernel
theorem dX11_refusedPlace_19 : decode cX11_refusedPlace 19 = .ok (.ifCond .ge 6, 3) := by decide +kernel
theorem dX11_refusedPlace_22 : decode cX11_refusedPlace 22 = .ok (.bipush (-5), 2) := by decide +kernel
theorem dX11_refusedPlace_24 : decode cX11_refusedPlace 24 = .ok (.ireturn, 1) := by decide +kernel
theorem dX11_refusedPlace_25 : decode cX11_refusedPlace 25 = .ok (.iload_n 1, 1) := by decide +kernel
theorem dX11_refusedPlace_26 : decode cX11_refusedPlace 26 = .ok (.aload_n 0, 1) := by decide +kernel
theorem dX11_refusedPlace_27 : decode cX11_refusedPlace 27 = .ok (.getfield 19, 3) := by decide +kernel
theorem dX11_refusedPlace_30 : decode cX11_refusedPlace 30 = .ok (.getfield 123, 3) := by decide +kernel
theorem dX11_refusedPlace_33 : decode cX11_refusedPlace 33 = .ok (.aload_n 0, 1) := by decide +kernel
theorem dX11_refusedPlace_34 : decode cX11_refusedPlace 34 = .ok (.getfield 65, 3) := by decide +kernel
theorem dX11_refusedPlace_37 : decode cX11_refusedPlace 37 = .ok (.getfield 260, 3) := by decide +kernel
theorem dX11_refusedPlace_40 : decode cX11_refusedPlace 40 = .ok (.iaload, 1) := by decide +kernel
theorem dX11_refusedPlace_41 : decode cX11_refusedPlace 41 = .ok (.if_icmp .ge 7, 3) := by decide +kernel
theorem dX11_refusedPlace_44 : decode cX11_refusedPlace 44 = .ok (.iconst 0, 1) := by decide +kernel
theorem dX11_refusedPlace_45 : decode cX11_refusedPlace 45 = .ok (.goto 4, 3) := by decide +kernel
theorem dX11_refusedPlace_48 : decode cX11_refusedPlace 48 = .ok (.iconst (-1), 1) := by decide +kernel
theorem dX11_refusedPlace_49 : decode cX11_refusedPlace 49 = .ok (.ireturn, 1) := by decide +kernel
def f_X11_refusedPlace (σ : St) (p1 : Int32) : Option (Int32 × St) := if p1 < 0 then (some ((-1 : Int32), σ)) else (if p1 < (6 : Int32) then (if 0 ≤ σ.1 52 0 then (chk (σ.1 52 0 < 0 ∨ 10 ≤ (σ.1 52 0).toNatClampNeg) (if σ.2.2.1 301 0 (σ.1 52 0).toNatClampNeg ≤ p1 then (some ((-1 : Int32), σ)) else (some ((0 : Int32), σ)))) else (some ((-5 : Int32), σ))) else (some ((-1 : Int32), σ)))
set_option maxHeartbeats 4000000 in
set_option maxRecDepth 100000 in
theorem c_X11_refusedPlace {l : Launch} {g : va_G} {ts : ClassId × ClassId × ClassId} {a : Nat → Nat} {σ : St} {p1 : Int32} {r : Int32} {σ' : St} (hf : f_X11_refusedPlace σ p1 = some (r, σ')) : ConI l g ts (WC ts a) yX11_refusedPlace cX11_refusedPlace 2 (some .int) (rk 0 0) σ [.ref (a 0), .int p1] r σ' := by
  refine ConI_mk .int rfl rfl rfl rfl (by decide) (Nat.le_of_ble_eq_true rfl) ?_
  intro p e s m below meth c A Q ls C hQ hP hD hS hl
  have C : FX p s m _ meth c RX11 cX11_refusedPlace 2 g ts A := C
  have hx := C.1
  have hb := C.2.1
  have hown := C.2.2.2.1
  have hts := C.2.2.2.2.1
  have hl : lv_has ls 2 [(0, .ref (a 0)), (1, .int p1)] := hl
  rw [f_X11_refusedPlace] at hf
  refine lv_iload_n hx hb dX11_refusedPlace_0 rfl (lv_at hl 1 rfl) ?_
  refine lv_if_lt (tgt := 10) hx hb dX11_refusedPlace_1 (by decide) (fun c1 => ?_) (fun c1 => ?_)
  · replace hf := ipos c1 hf
    refine lv_iconst (v := -1) hx hb dX11_refusedPlace_10 (by decide) ?_
    exact retI hQ hf dX11_refusedPlace_11 hP hD hS
  · replace hf := ineg c1 hf
    refine lv_iload_n hx hb dX11_refusedPlace_4 rfl (lv_at hl 1 rfl) ?_
    refine lv_bipush (v := 6) hx hb dX11_refusedPlace_5 (by decide) ?_
    refine lv_icmp_lt (tgt := 12) hx hb dX11_refusedPlace_7 (by decide) (fun c2 => ?_) (fun c2 => ?_)
    · replace hf := ipos c2 hf
      refine lv_aload_n hx hb dX11_refusedPlace_12 rfl (lv_at hl 0 rfl) ?_
      refine G_X11_deed C hP q_387 dX11_refusedPlace_13 ?_
      refine G_X1_name (show (0 : Nat) < 2 from by decide) C hP q_304 dX11_refusedPlace_16 ?_
      refine lv_if_ge (tgt := 25) hx hb dX11_refusedPlace_19 (by decide) (fun c3 => ?_) (fun c3 => ?_)
      · replace hf := ipos c3 hf
        refine lv_iload_n hx hb dX11_refusedPlace_25 rfl (lv_at hl 1 rfl) ?_
        refine lv_aload_n hx hb dX11_refusedPlace_26 rfl (lv_at hl 0 rfl) ?_
        refine G_X11_names C hP q_381 dX11_refusedPlace_27 ?_
        refine G_X6_sizes C hP q_159 dX11_refusedPlace_30 ?_
        refine lv_aload_n hx hb dX11_refusedPlace_33 rfl (lv_at hl 0 rfl) ?_
        refine G_X11_deed C hP q_387 dX11_refusedPlace_34 ?_
        refine G_X1_name (show (0 : Nat) < 2 from by decide) C hP q_304 dX11_refusedPlace_37 ?_
        obtain ⟨h4, hf⟩ := chk_some hf
        refine AL_X6_sizes C hP h4 dX11_refusedPlace_40 ?_
        refine lv_icmp_ge (tgt := 48) hx hb dX11_refusedPlace_41 (by decide) (fun c5 => ?_) (fun c5 => ?_)
        · replace hf := ipos c5 hf
          refine lv_iconst (v := -1) hx hb dX11_refusedPlace_48 (by decide) ?_
          exact retI hQ hf dX11_refusedPlace_49 hP hD hS
        · replace hf := ineg c5 hf
          refine lv_iconst (v := 0) hx hb dX11_refusedPlace_44 (by decide) ?_
          refine lv_goto (tgt := 49) hx hb dX11_refusedPlace_45 (by decide) ?_
          exact retI hQ hf dX11_refusedPlace_49 hP hD hS
      · replace hf := ineg c3 hf
        refine lv_bipush (v := -5) hx hb dX11_refusedPlace_22 (by decide) ?_
        exact retI hQ hf dX11_refusedPlace_24 hP hD hS
    · replace hf := ineg c2 hf
      refine lv_iconst (v := -1) hx hb dX11_refusedPlace_10 (by decide) ?_
      exact retI hQ hf dX11_refusedPlace_11 hP hD hS
theorem dX11_say_0 : decode cX11_say 0 = .ok (.iload_n 2, 1) := by decide +kernel
theorem dX11_say_1 : decode cX11_say 1 = .ok (.ifCond .lt 8, 3) := by decide +kernel
theorem dX11_say_4 : decode cX11_say 4 = .ok (.iload_n 2, 1) := by decide +kernel
theorem dX11_say_5 : decode cX11_say 5 = .ok (.iconst 1, 1) := by decide +kernel
theorem dX11_say_6 : decode cX11_say 6 = .ok (.if_icmp .le 7, 3) := by decide +kernel
theorem dX11_say_9 : decode cX11_say 9 = .ok (.iconst (-1), 1) := by decide +kernel
theorem dX11_say_10 : decode cX11_say 10 = .ok (.goto 8, 3) := by decide +kernel
theorem dX11_say_13 : decode cX11_say 13 = .ok (.aload_n 0, 1) := by decide +kernel
theorem dX11_say_14 : decode cX11_say 14 = .ok (.iload_n 1, 1) := by decide +kernel
theorem dX11_say_15 : decode cX11_say 15 = .ok (.invokevirtual 267, 3) := by decide +kernel
theorem dX11_say_18 : decode cX11_say 18 = .ok (.istore_n 3, 1) := by decide +kernel
theorem dX11_say_19 : decode cX11_say 19 = .ok (.iload_n 3, 1) := by decide +kernel
theorem dX11_say_20 : decode cX11_say 20 = .ok (.ifCond .eq 5, 3) := by decide +kernel
theorem dX11_say_23 : decode cX11_say 23 = .ok (.iload_n 3, 1) := by decide +kernel
theorem dX11_say_24 : decode cX11_say 24 = .ok (.ireturn, 1) := by decide +kernel
theorem dX11_say_25 : decode cX11_say 25 = .ok (.aload_n 0, 1) := by decide +kernel
theorem dX11_say_26 : decode cX11_say 26 = .ok (.getfield 19, 3) := by decide +kernel
theorem dX11_say_29 : decode cX11_say 29 = .ok (.aload_n 0, 1) := by decide +kernel
theorem dX11_say_30 : decode cX11_say 30 = .ok (.getfield 65, 3) := by decide +kernel
theorem dX11_say_33 : decode cX11_say 33 = .ok (.getfield 260, 3) := by decide +kernel
theorem dX11_say_36 : decode cX11_say 36 = .ok (.iload_n 1, 1) := by decide +kernel
theorem dX11_say_37 : decode cX11_say 37 = .ok (.invokevirtual 130, 3) := by decide +kernel
theorem dX11_say_40 : decode cX11_say 40 = .ok (.istore 4, 2) := by decide +kernel
theorem dX11_say_42 : decode cX11_say 42 = .ok (.aload_n 0, 1) := by decide +kernel
theorem dX11_say_43 : decode cX11_say 43 = .ok (.getfield 65, 3) := by decide +kernel
theorem dX11_say_46 : decode cX11_say 46 = .ok (.aload_n 0, 1) := by decide +kernel
theorem dX11_say_47 : decode cX11_say 47 = .ok (.getfield 10, 3) := by decide +kernel
theorem dX11_say_50 : decode cX11_say 50 = .ok (.iload 4, 2) := by decide +kernel
theorem dX11_say_52 : decode cX11_say 52 = .ok (.iload_n 1, 1) := by decide +kernel
theorem dX11_say_53 : decode cX11_say 53 = .ok (.iload_n 2, 1) := by decide +kernel
theorem dX11_say_54 : decode cX11_say 54 = .ok (.iconst 1, 1) := by decide +kernel
theorem dX11_say_55 : decode cX11_say 55 = .ok (.if_icmp .ne 7, 3) := by decide +kernel
theorem dX11_say_58 : decode cX11_say 58 = .ok (.iconst 1, 1) := by decide +kernel
theorem dX11_say_59 : decode cX11_say 59 = .ok (.goto 4, 3) := by decide +kernel
theorem dX11_say_62 : decode cX11_say 62 = .ok (.iconst 0, 1) := by decide +kernel
theorem dX11_say_63 : decode cX11_say 63 = .ok (.invokevirtual 270, 3) := by decide +kernel
theorem dX11_say_66 : decode cX11_say 66 = .ok (.istore 5, 2) := by decide +kernel
theorem dX11_say_68 : decode cX11_say 68 = .ok (.aload_n 0, 1) := by decide +kernel
theorem dX11_say_69 : decode cX11_say 69 = .ok (.getfield 65, 3) := by decide +kernel
theorem dX11_say_72 : decode cX11_say 72 = .ok (.iload_n 1, 1) := by decide +kernel
theorem dX11_say_73 : decode cX11_say 73 = .ok (.iload 5, 2) := by decide +kernel
theorem dX11_say_75 : decode cX11_say 75 = .ok (.iload_n 2, 1) := by decide +kernel
theorem dX11_say_76 : decode cX11_say 76 = .ok (.iconst 1, 1) := by decide +kernel
theorem dX11_say_77 : decode cX11_say 77 = .ok (.if_icmp .ne 16, 3) := by decide +kernel
theorem dX11_say_80 : decode cX11_say 80 = .ok (.aload_n 0, 1) := by decide +kernel
theorem dX11_say_81 : decode cX11_say 81 = .ok (.getfield 10, 3) := by decide +kernel
theorem dX11_say_84 : decode cX11_say 84 = .ok (.getfield 274, 3) := by decide +kernel
theorem dX11_say_87 : decode cX11_say 87 = .ok (.iload 4, 2) := by decide +kernel
theorem dX11_say_89 : decode cX11_say 89 = .ok (.iaload, 1) := by decide +kernel
theorem dX11_say_90 : decode cX11_say 90 = .ok (.goto 4, 3) := by decide +kernel
theorem dX11_say_93 : decode cX11_say 93 = .ok (.iconst 1, 1) := by decide +kernel
theorem dX11_say_94 : decode cX11_say 94 = .ok (.invokevirtual 277, 3) := by decide +kernel
theorem dX11_say_97 : decode cX11_say 97 = .ok (.iload 5, 2) := by decide +kernel
theorem dX11_say_99 : decode cX11_say 99 = .ok (.ireturn, 1) := by decide +kernel
def f_X11_say_b94 (σ : St) (x5 : Int32) (s0 : Int32) (s1 : Int32) (s2 : Int32) : Option (Int32 × St) := bnd1 (f_X1_write σ 0 s2 s1 s0) (fun σ17 => some (x5, σ17))
def f_X11_say_b63 (σ : St) (x1 : Int32) (x2 : Int32) (x4 : Int32) (s0 : Int32) (s1 : Int32) (s2 : Int32) : Option (Int32 × St) := bnd2 (f_X1_speak σ 0 s2 s1 s0) (fun r12 σ13 => if x2 = (1 : Int32) then (chk (x4 < 0 ∨ 12 ≤ x4.toNatClampNeg) (f_X11_say_b94 σ13 r12 (σ13.2.2.1 251 0 x4.toNatClampNeg) r12 x1)) else (f_X11_say_b94 σ13 r12 (1 : Int32) r12 x1))
def f_X11_say_b18 (σ : St) (x1 : Int32) (x2 : Int32) (s0 : Int32) : Option (Int32 × St) := if s0 = 0 then (bnd2 (f_X6_at σ (σ.1 52 0) x1) (fun r8 σ9 => if x2 = (1 : Int32) then (f_X11_say_b63 σ9 x1 x2 r8 (1 : Int32) x1 r8) else (f_X11_say_b63 σ9 x1 x2 r8 (0 : Int32) x1 r8))) else (some (s0, σ))
def f_X11_say_b9 (σ : St) (x1 : Int32) (x2 : Int32) : Option (Int32 × St) := f_X11_say_b18 σ x1 x2 (-1 : Int32)
def f_X11_say (σ : St) (p1 : Int32) (p2 : Int32) : Option (Int32 × St) := if p2 < 0 then (f_X11_say_b9 σ p1 p2) else (if p2 ≤ (1 : Int32) then (bnd2 (f_X11_refusedPlace σ p1) (fun r4 σ5 => f_X11_say_b18 σ5 p1 p2 r4)) else (f_X11_say_b9 σ p1 p2))
set_option maxHeartbeats 4000000 in
set_option maxRecDepth 100000 in
theorem w_X11_say_b94 {p : Program} {l : Launch} {e : Env} {s : State} {m : MethodId} {args : Array Value} {below : List Frame} {meth : Method} {c : Code} {g : va_G} {ts : ClassId × ClassId × ClassId} {A : Nat → Prop} {Q : State → Prop} {a : Nat → Nat} {r : Int32} {σ' : St} (C : FX p s m args meth c RX11 cX11_say 6 g ts A) (hQ : RetI p l e (rk 6 156) s m args below meth c cX11_say g (WC ts a) A r σ' Q) : ∀ (σ : St) (x5 : Int32) (s0 : Int32) (s1 : Int32) (s2 : Int32) (H : Heap) (locs : List Loc) (ls : Array Slot), f_X11_say_b94 σ x5 s0 s1 s2 = some (r, σ') → va_P g classes (WC ts a σ) H → va_D A (WC ts a σ) → va_S A s.heap H locs → lv_has ls 6 [(5, .int x5)] → W p l e (rk 6 156) s m args below meth c H locs 0 0 Q (F0 m 94 ls [.int s0, .int s1, .int s2, .ref (a (30 + 3 * 0))]) := by
  have hx := C.1
  have hb := C.2.1
  have hown := C.2.2.2.1
  have hts := C.2.2.2.2.1
  intro σ x5 s0 s1 s2 H locs ls hf hP hD hS hl
  rw [f_X11_say_b94] at hf
  obtain ⟨σ17, h16, hf⟩ := bnd1_some hf
  refine vV [] C hP hD hS (c_X1_write (show (0 : Nat) < 2 from by decide) h16) mv_X1_write q_919 (rv_X1 (show (0 : Nat) < 2 from by decide)) dX11_say_94 ⟨Nat.le_of_ble_eq_true rfl, Nat.le_of_ble_eq_true rfl⟩ ⟨Nat.zero_le _, Nat.zero_le _⟩ rfl rfl (Nat.le_of_ble_eq_true rfl) hl.1 (fun H locs hP hD hS => ?_)
  refine lv_iload hx hb dX11_say_97 (lv_at hl 0 rfl) ?_
  exact retI hQ hf dX11_say_99 hP hD hS
set_option maxHeartbeats 4000000 in
set_option maxRecDepth 100000 in
theorem w_X11_say_b63 {p : Program} {l : Launch} {e : Env} {s : State} {m : MethodId} {args : Array Value} {below : List Frame} {meth : Method} {c : Code} {g : va_G} {ts : ClassId × ClassId × ClassId} {A : Nat → Prop} {Q : State → Prop} {a : Nat → Nat} {r : Int32} {σ' : St} (C : FX p s m args meth c RX11 cX11_say 6 g ts A) (hQ : RetI p l e (rk 6 156) s m args below meth c cX11_say g (WC ts a) A r σ' Q) : ∀ (σ : St) (x1 : Int32) (x2 : Int32) (x4 : Int32) (s0 : Int32) (s1 : Int32) (s2 : Int32) (H : Heap) (locs : List Loc) (ls : Array Slot), f_X11_say_b63 σ x1 x2 x4 s0 s1 s2 = some (r, σ') → va_P g classes (WC ts a σ) H → va_D A (WC ts a σ) → va_S A s.heap H locs → lv_has ls 6 [(0, .ref (a 0)), (1, .int x1), (2, .int x2), (4, .int x4)] → W p l e (rk 6 156) s m args below meth c H locs 0 0 Q (F0 m 63 ls [.int s0, .int s1, .int s2, .ref (a 2), .ref (a (30 + 3 * 0))]) := by
  have hx := C.1
  have hb := C.2.1
  have hown := C.2.2.2.1
  have hts := C.2.2.2.2.1
  intro σ x1 x2 x4 s0 s1 s2 H locs ls hf hP hD hS hl
  rw [f_X11_say_b63] at hf
  obtain ⟨r12, σ13, h11, hf⟩ := bnd2_some hf
  refine vI [] C hP hD hS (c_X1_speak (show (0 : Nat) < 2 from by decide) h11) mv_X1_speak q_911 (rv_X1 (show (0 : Nat) < 2 from by decide)) dX11_say_63 ⟨Nat.le_of_ble_eq_true rfl, Nat.le_of_ble_eq_true rfl⟩ ⟨Nat.zero_le _, Nat.zero_le _⟩ rfl rfl (Nat.le_of_ble_eq_true rfl) hl.1 (fun H locs hP hD hS => ?_)
  refine lv_istore (lv' := [(5, .int r12), (0, .ref (a 0)), (1, .int x1), (2, .int x2), (4, .int x4)]) hx hb dX11_say_66 hl (by decide) rfl (fun ls hl => ?_)
  refine lv_aload_n hx hb dX11_say_68 rfl (lv_at hl 1 rfl) ?_
  refine G_X11_deed C hP q_387 dX11_say_69 ?_
  refine lv_iload_n hx hb dX11_say_72 rfl (lv_at hl 2 rfl) ?_
  refine lv_iload hx hb dX11_say_73 (lv_at hl 0 rfl) ?_
  refine lv_iload_n hx hb dX11_say_75 rfl (lv_at hl 3 rfl) ?_
  refine lv_iconst (v := 1) hx hb dX11_say_76 (by decide) ?_
  refine lv_icmp_ne (tgt := 93) hx hb dX11_say_77 (by decide) (fun c14 => ?_) (fun c14 => ?_)
  · replace hf := ineg c14 hf
    refine lv_iconst (v := 1) hx hb dX11_say_93 (by decide) ?_
    exact w_X11_say_b94 C hQ _ _ _ _ _ _ _ _ hf hP hD hS (lv_sub hl [0] rfl)
  · replace hf := ipos c14 hf
    refine lv_aload_n hx hb dX11_say_80 rfl (lv_at hl 1 rfl) ?_
    refine G_X11_line C hP q_380 dX11_say_81 ?_
    refine G_X5_longs C hP q_120 dX11_say_84 ?_
    refine lv_iload hx hb dX11_say_87 (lv_at hl 4 rfl) ?_
    obtain ⟨h15, hf⟩ := chk_some hf
    refine AL_X5_longs C hP h15 dX11_say_89 ?_
    refine lv_goto (tgt := 94) hx hb dX11_say_90 (by decide) ?_
    exact w_X11_say_b94 C hQ _ _ _ _ _ _ _ _ hf hP hD hS (lv_sub hl [0] rfl)
set_option maxHeartbeats 4000000 in
set_option maxRecDepth 100000 in
theorem w_X11_say_b18 {p : Program} {l : Launch} {e : Env} {s : State} {m : MethodId} {args : Array Value} {below : List Frame} {meth : Method} {c : Code} {g : va_G} {ts : ClassId × ClassId × ClassId} {A : Nat → Prop} {Q : State → Prop} {a : Nat → Nat} {r : Int32} {σ' : St} (C : FX p s m args meth c RX11 cX11_say 6 g ts A) (hQ : RetI p l e (rk 6 156) s m args below meth c cX11_say g (WC ts a) A r σ' Q) : ∀ (σ : St) (x1 : Int32) (x2 : Int32) (s0 : Int32) (H : Heap) (locs : List Loc) (ls : Array Slot), f_X11_say_b18 σ x1 x2 s0 = some (r, σ') → va_P g classes (WC ts a σ) H → va_D A (WC ts a σ) → va_S A s.heap H locs → lv_has ls 6 [(0, .ref (a 0)), (1, .int x1), (2, .int x2)] → W p l e (rk 6 156) s m args below meth c H locs 0 0 Q (F0 m 18 ls [.int s0]) := by
  have hx := C.1
  have hb := C.2.1
  have hown := C.2.2.2.1
  have hts := C.2.2.2.2.1
  intro σ x1 x2 s0 H locs ls hf hP hD hS hl
  rw [f_X11_say_b18] at hf
  refine lv_istore_n (lv' := [(3, .int s0), (0, .ref (a 0)), (1, .int x1), (2, .int x2)]) hx hb dX11_say_18 rfl hl (by decide) rfl (fun ls hl => ?_)
  refine lv_iload_n hx hb dX11_say_19 rfl (lv_at hl 0 rfl) ?_
  refine lv_if_eq (tgt := 25) hx hb dX11_say_20 (by decide) (fun c6 => ?_) (fun c6 => ?_)
  · replace hf := ipos c6 hf
    refine lv_aload_n hx hb dX11_say_25 rfl (lv_at hl 1 rfl) ?_
    refine G_X11_names C hP q_381 dX11_say_26 ?_
    refine lv_aload_n hx hb dX11_say_29 rfl (lv_at hl 1 rfl) ?_
    refine G_X11_deed C hP q_387 dX11_say_30 ?_
    refine G_X1_name (show (0 : Nat) < 2 from by decide) C hP q_304 dX11_say_33 ?_
    refine lv_iload_n hx hb dX11_say_36 rfl (lv_at hl 2 rfl) ?_
    obtain ⟨r8, σ9, h7, hf⟩ := bnd2_some hf
    refine vI [] C hP hD hS (c_X6_at h7) mv_X6_at q_504 rv_X6 dX11_say_37 ⟨Nat.le_of_ble_eq_true rfl, Nat.le_of_ble_eq_true rfl⟩ ⟨Nat.zero_le _, Nat.zero_le _⟩ rfl rfl (Nat.le_of_ble_eq_true rfl) hl.1 (fun H locs hP hD hS => ?_)
    refine lv_istore (lv' := [(4, .int r8), (3, .int s0), (0, .ref (a 0)), (1, .int x1), (2, .int x2)]) hx hb dX11_say_40 hl (by decide) rfl (fun ls hl => ?_)
    refine lv_aload_n hx hb dX11_say_42 rfl (lv_at hl 2 rfl) ?_
    refine G_X11_deed C hP q_387 dX11_say_43 ?_
    refine lv_aload_n hx hb dX11_say_46 rfl (lv_at hl 2 rfl) ?_
    refine G_X11_line C hP q_380 dX11_say_47 ?_
    refine lv_iload hx hb dX11_say_50 (lv_at hl 0 rfl) ?_
    refine lv_iload_n hx hb dX11_say_52 rfl (lv_at hl 3 rfl) ?_
    refine lv_iload_n hx hb dX11_say_53 rfl (lv_at hl 4 rfl) ?_
    refine lv_iconst (v := 1) hx hb dX11_say_54 (by decide) ?_
    refine lv_icmp_ne (tgt := 62) hx hb dX11_say_55 (by decide) (fun c10 => ?_) (fun c10 => ?_)
    · replace hf := ineg c10 hf
      refine lv_iconst (v := 0) hx hb dX11_say_62 (by decide) ?_
      exact w_X11_say_b63 C hQ _ _ _ _ _ _ _ _ _ _ hf hP hD hS (lv_sub hl [2, 3, 4, 0] rfl)
    · replace hf := ipos c10 hf
      refine lv_iconst (v := 1) hx hb dX11_say_58 (by decide) ?_
      refine lv_goto (tgt := 63) hx hb dX11_say_59 (by decide) ?_
      exact w_X11_say_b63 C hQ _ _ _ _ _ _ _ _ _ _ hf hP hD hS (lv_sub hl [2, 3, 4, 0] rfl)
  · replace hf := ineg c6 hf
    refine lv_iload_n hx hb dX11_say_23 rfl (lv_at hl 0 rfl) ?_
    exact retI hQ hf dX11_say_24 hP hD hS
set_option maxHeartbeats 4000000 in
set_option maxRecDepth 100000 in
theorem w_X11_say_b9 {p : Program} {l : Launch} {e : Env} {s : State} {m : MethodId} {args : Array Value} {below : List Frame} {meth : Method} {c : Code} {g : va_G} {ts : ClassId × ClassId × ClassId} {A : Nat → Prop} {Q : State → Prop} {a : Nat → Nat} {r : Int32} {σ' : St} (C : FX p s m args meth c RX11 cX11_say 6 g ts A) (hQ : RetI p l e (rk 6 156) s m args below meth c cX11_say g (WC ts a) A r σ' Q) : ∀ (σ : St) (x1 : Int32) (x2 : Int32) (H : Heap) (locs : List Loc) (ls : Array Slot), f_X11_say_b9 σ x1 x2 = some (r, σ') → va_P g classes (WC ts a σ) H → va_D A (WC ts a σ) → va_S A s.heap H locs → lv_has ls 6 [(0, .ref (a 0)), (1, .int x1), (2, .int x2)] → W p l e (rk 6 156) s m args below meth c H locs 0 0 Q (F0 m 9 ls []) := by
  have hx := C.1
  have hb := C.2.1
  have hown := C.2.2.2.1
  have hts := C.2.2.2.2.1
  intro σ x1 x2 H locs ls hf hP hD hS hl
  rw [f_X11_say_b9] at hf
  refine lv_iconst (v := -1) hx hb dX11_say_9 (by decide) ?_
  refine lv_goto (tgt := 18) hx hb dX11_say_10 (by decide) ?_
  exact w_X11_say_b18 C hQ _ _ _ _ _ _ _ hf hP hD hS (lv_sub hl [0, 1, 2] rfl)
set_option maxHeartbeats 4000000 in
set_option maxRecDepth 100000 in
theorem c_X11_say {l : Launch} {g : va_G} {ts : ClassId × ClassId × ClassId} {a : Nat → Nat} {σ : St} {p1 : Int32} {p2 : Int32} {r : Int32} {σ' : St} (hf : f_X11_say σ p1 p2 = some (r, σ')) : ConI l g ts (WC ts a) yX11_say cX11_say 6 (some .int) (rk 6 156) σ [.ref (a 0), .int p1, .int p2] r σ' := by
  refine ConI_mk .int rfl rfl rfl rfl (by decide) (Nat.le_of_ble_eq_true rfl) ?_
  intro p e s m below meth c A Q ls C hQ hP hD hS hl
  have C : FX p s m _ meth c RX11 cX11_say 6 g ts A := C
  have hx := C.1
  have hb := C.2.1
  have hown := C.2.2.2.1
  have hts := C.2.2.2.2.1
  have hl : lv_has ls 6 [(0, .ref (a 0)), (1, .int p1), (2, .int p2)] := hl
  rw [f_X11_say] at hf
  refine lv_iload_n hx hb dX11_say_0 rfl (lv_at hl 2 rfl) ?_
  refine lv_if_lt (tgt := 9) hx hb dX11_say_1 (by decide) (fun c1 => ?_) (fun c1 => ?_)
  · replace hf := ipos c1 hf
    exact w_X11_say_b9 C hQ _ _ _ _ _ _ hf hP hD hS (lv_sub hl [0, 1, 2] rfl)
  · replace hf := ineg c1 hf
    refine lv_iload_n hx hb dX11_say_4 rfl (lv_at hl 2 rfl) ?_
    refine lv_iconst (v := 1) hx hb dX11_say_5 (by decide) ?_
    refine lv_icmp_le (tgt := 13) hx hb dX11_say_6 (by decide) (fun c2 => ?_) (fun c2 => ?_)
    · replace hf := ipos c2 hf
      refine lv_aload_n hx hb dX11_say_13 rfl (lv_at hl 0 rfl) ?_
      refine lv_iload_n hx hb dX11_say_14 rfl (lv_at hl 1 rfl) ?_
      obtain ⟨r4, σ5, h3, hf⟩ := bnd2_some hf
      refine vI [] C hP hD hS (c_X11_refusedPlace h3) mv_X11_refusedPlace q_907 rv_X11 dX11_say_15 ⟨Nat.le_of_ble_eq_true rfl, Nat.le_of_ble_eq_true rfl⟩ ⟨Nat.zero_le _, Nat.zero_le _⟩ rfl rfl (Nat.le_of_ble_eq_true rfl) hl.1 (fun H locs hP hD hS => ?_)
      exact w_X11_say_b18 C hQ _ _ _ _ _ _ _ hf hP hD hS (lv_sub hl [0, 1, 2] rfl)
    · replace hf := ineg c2 hf
      exact w_X11_say_b9 C hQ _ _ _ _ _ _ hf hP hD hS (lv_sub hl [0, 1, 2] rfl)
theorem dX11_noted_0 : decode cX11_noted 0 = .ok (.aload_n 0, 1) := by decide +kernel
theorem dX11_noted_1 : decode cX11_noted 1 = .ok (.iload_n 1, 1) := by decide +kernel
theorem dX11_noted_2 : decode cX11_noted 2 = .ok (.invokevirtual 267, 3) := by decide +kernel
theorem dX11_noted_5 : decode cX11_noted 5 = .ok (.istore_n 2, 1) := by decide +kernel
theorem dX11_noted_6 : decode cX11_noted 6 = .ok (.iload_n 2, 1) := by decide +kernel
theorem dX11_noted_7 : decode cX11_noted 7 = .ok (.ifCond .eq 5, 3) := by decide +kernel
theorem dX11_noted_10 : decode cX11_noted 10 = .ok (.iload_n 2, 1) := by decide +kernel
theorem dX11_noted_11 : decode cX11_noted 11 = .ok (.ireturn, 1) := by decide +kernel
theorem dX11_noted_12 : decode cX11_noted 12 = .ok (.aload_n 0, 1) := by decide +kernel
theorem dX11_noted_13 : decode cX11_noted 13 = .ok (.getfield 65, 3) := by decide +kernel
theorem dX11_noted_16 : decode cX11_noted 16 = .ok (.getfield 280, 3) := by decide +kernel
theorem dX11_noted_19 : decode cX11_noted 19 = .ok (.iload_n 1, 1) := by decide +kernel
theorem dX11_noted_20 : decode cX11_noted 20 = .ok (.iaload, 1) := by decide +kernel
theorem dX11_noted_21 : decode cX11_noted 21 = .ok (.ifCond .ne 8, 3) := by decide +kernel
theorem dX11_noted_24 : decode cX11_noted 24 = .ok (.bipush (-2), 2) := by decide +kernel
theorem dX11_noted_26 : decode cX11_noted 26 = .ok (.goto 12, 3) := by decide +kernel
theorem dX11_noted_29 : decode cX11_noted 29 = .ok (.aload_n 0, 1) := by decide +kernel
theorem dX11_noted_30 : decode cX11_noted 30 = .ok (.getfield 65, 3) := by decide +kernel
theorem dX11_noted_33 : decode cX11_noted 33 = .ok (.getfield 283, 3) := by decide +kernel
theorem dX11_noted_36 : decode cX11_noted 36 = .ok (.iload_n 1, 1) := by decide +kernel
theorem dX11_noted_37 : decode cX11_noted 37 = .ok (.iaload, 1) := by decide +kernel
theorem dX11_noted_38 : decode cX11_noted 38 = .ok (.ireturn, 1) := by decide +kernel
def f_X11_noted (σ : St) (p1 : Int32) : Option (Int32 × St) := bnd2 (f_X11_refusedPlace σ p1) (fun r2 σ3 => if r2 = 0 then (chk (p1 < 0 ∨ 6 ≤ p1.toNatClampNeg) (if σ3.2.2.1 50 0 p1.toNatClampNeg = 0 then (some ((-2 : Int32), σ3)) else (chk (p1 < 0 ∨ 6 ≤ p1.toNatClampNeg) (some (σ3.2.2.1 51 0 p1.toNatClampNeg, σ3))))) else (some (r2, σ3)))
set_option maxHeartbeats 4000000 in
set_option maxRecDepth 100000 in
theorem c_X11_noted {l : Launch} {g : va_G} {ts : ClassId × ClassId × ClassId} {a : Nat → Nat} {σ : St} {p1 : Int32} {r : Int32} {σ' : St} (hf : f_X11_noted σ p1 = some (r, σ')) : ConI l g ts (WC ts a) yX11_noted cX11_noted 3 (some .int) (rk 1 21) σ [.ref (a 0), .int p1] r σ' := by
  refine ConI_mk .int rfl rfl rfl rfl (by decide) (Nat.le_of_ble_eq_true rfl) ?_
  intro p e s m below meth c A Q ls C hQ hP hD hS hl
  have C : FX p s m _ meth c RX11 cX11_noted 3 g ts A := C
  have hx := C.1
  have hb := C.2.1
  have hown := C.2.2.2.1
  have hts := C.2.2.2.2.1
  have hl : lv_has ls 3 [(0, .ref (a 0)), (1, .int p1)] := hl
  rw [f_X11_noted] at hf
  refine lv_aload_n hx hb dX11_noted_0 rfl (lv_at hl 0 rfl) ?_
  refine lv_iload_n hx hb dX11_noted_1 rfl (lv_at hl 1 rfl) ?_
  obtain ⟨r2, σ3, h1, hf⟩ := bnd2_some hf
  refine vI [] C hP hD hS (c_X11_refusedPlace h1) mv_X11_refusedPlace q_907 rv_X11 dX11_noted_2 ⟨Nat.le_of_ble_eq_true rfl, Nat.le_of_ble_eq_true rfl⟩ ⟨Nat.zero_le _, Nat.zero_le _⟩ rfl rfl (Nat.le_of_ble_eq_true rfl) hl.1 (fun H locs hP hD hS => ?_)
  refine lv_istore_n (lv' := [(2, .int r2), (0, .ref (a 0)), (1, .int p1)]) hx hb dX11_noted_5 rfl hl (by decide) rfl (fun ls hl => ?_)
  refine lv_iload_n hx hb dX11_noted_6 rfl (lv_at hl 0 rfl) ?_
  refine lv_if_eq (tgt := 12) hx hb dX11_noted_7 (by decide) (fun c4 => ?_) (fun c4 => ?_)
  · replace hf := ipos c4 hf
    refine lv_aload_n hx hb dX11_noted_12 rfl (lv_at hl 1 rfl) ?_
    refine G_X11_deed C hP q_387 dX11_noted_13 ?_
    refine G_X1_said (show (0 : Nat) < 2 from by decide) C hP q_300 dX11_noted_16 ?_
    refine lv_iload_n hx hb dX11_noted_19 rfl (lv_at hl 2 rfl) ?_
    obtain ⟨h5, hf⟩ := chk_some hf
    refine AL_X1_said (show (0 : Nat) < 2 from by decide) C hP h5 dX11_noted_20 ?_
    refine lv_if_ne (tgt := 29) hx hb dX11_noted_21 (by decide) (fun c6 => ?_) (fun c6 => ?_)
    · replace hf := ineg c6 hf
      refine lv_aload_n hx hb dX11_noted_29 rfl (lv_at hl 1 rfl) ?_
      refine G_X11_deed C hP q_387 dX11_noted_30 ?_
      refine G_X1_noted (show (0 : Nat) < 2 from by decide) C hP q_302 dX11_noted_33 ?_
      refine lv_iload_n hx hb dX11_noted_36 rfl (lv_at hl 2 rfl) ?_
      obtain ⟨h7, hf⟩ := chk_some hf
      refine AL_X1_noted (show (0 : Nat) < 2 from by decide) C hP h7 dX11_noted_37 ?_
      exact retI hQ hf dX11_noted_38 hP hD hS
    · replace hf := ipos c6 hf
      refine lv_bipush (v := -2) hx hb dX11_noted_24 (by decide) ?_
      refine lv_goto (tgt := 38) hx hb dX11_noted_26 (by decide) ?_
      exact retI hQ hf dX11_noted_38 hP hD hS
  · replace hf := ineg c4 hf
    refine lv_iload_n hx hb dX11_noted_10 rfl (lv_at hl 0 rfl) ?_
    exact retI hQ hf dX11_noted_11 hP hD hS
theorem dX11_hang_0 : decode cX11_hang 0 = .ok (.aload_n 0, 1) := by decide +kernel
theorem dX11_hang_1 : decode cX11_hang 1 = .ok (.getfield 65, 3) := by decide +kernel
theorem dX11_hang_4 : decode cX11_hang 4 = .ok (.getfield 260, 3) := by decide +kernel
theorem dX11_hang_7 : decode cX11_hang 7 = .ok (.ifCond .ge 6, 3) := by decide +kernel
theorem dX11_hang_10 : decode cX11_hang 10 = .ok (.bipush (-5), 2) := by decide +kernel
theorem dX11_hang_12 : decode cX11_hang 12 = .ok (.ireturn, 1) := by decide +kernel
theorem dX11_hang_13 : decode cX11_hang 13 = .ok (.aload_n 0, 1) := by decide +kernel
theorem dX11_hang_14 : decode cX11_hang 14 = .ok (.getfield 65, 3) := by decide +kernel
theorem dX11_hang_17 : decode cX11_hang 17 = .ok (.aload_n 0, 1) := by decide +kernel
theorem dX11_hang_18 : decode cX11_hang 18 = .ok (.getfield 19, 3) := by decide +kernel
theorem dX11_hang_21 : decode cX11_hang 21 = .ok (.invokevirtual 286, 3) := by decide +kernel
theorem dX11_hang_24 : decode cX11_hang 24 = .ok (.ifCond .ne 21, 3) := by decide +kernel
theorem dX11_hang_27 : decode cX11_hang 27 = .ok (.aload_n 0, 1) := by decide +kernel
theorem dX11_hang_28 : decode cX11_hang 28 = .ok (.getfield 65, 3) := by decide +kernel
theorem dX11_hang_31 : decode cX11_hang 31 = .ok (.aload_n 0, 1) := by decide +kernel
theorem dX11_hang_32 : decode cX11_hang 32 = .ok (.getfield 19, 3) := by decide +kernel
theorem dX11_hang_35 : decode cX11_hang 35 = .ok (.invokevirtual 290, 3) := by decide +kernel
theorem dX11_hang_38 : decode cX11_hang 38 = .ok (.ifCond .ne 7, 3) := by decide +kernel
theorem dX11_hang_41 : decode cX11_hang 41 = .ok (.iconst 1, 1) := by decide +kernel
theorem dX11_hang_42 : decode cX11_hang 42 = .ok (.goto 4, 3) := by decide +kernel
theorem dX11_hang_45 : decode cX11_hang 45 = .ok (.iconst 0, 1) := by decide +kernel
theorem dX11_hang_46 : decode cX11_hang 46 = .ok (.istore_n 1, 1) := by decide +kernel
theorem dX11_hang_47 : decode cX11_hang 47 = .ok (.aload_n 0, 1) := by decide +kernel
theorem dX11_hang_48 : decode cX11_hang 48 = .ok (.getfield 65, 3) := by decide +kernel
theorem dX11_hang_51 : decode cX11_hang 51 = .ok (.iload_n 1, 1) := by decide +kernel
theorem dX11_hang_52 : decode cX11_hang 52 = .ok (.invokevirtual 293, 3) := by decide +kernel
theorem dX11_hang_55 : decode cX11_hang 55 = .ok (.iload_n 1, 1) := by decide +kernel
theorem dX11_hang_56 : decode cX11_hang 56 = .ok (.ifCond .eq 7, 3) := by decide +kernel
theorem dX11_hang_59 : decode cX11_hang 59 = .ok (.iconst 1, 1) := by decide +kernel
theorem dX11_hang_60 : decode cX11_hang 60 = .ok (.goto 4, 3) := by decide +kernel
theorem dX11_hang_63 : decode cX11_hang 63 = .ok (.iconst 0, 1) := by decide +kernel
theorem dX11_hang_64 : decode cX11_hang 64 = .ok (.ireturn, 1) := by decide +kernel
def f_X11_hang_b46 (σ : St) (s0 : Int32) : Option (Int32 × St) := bnd1 (f_X1_end σ 0 s0) (fun σ11 => if s0 = 0 then (some ((0 : Int32), σ11)) else (some ((1 : Int32), σ11)))
def f_X11_hang_b45 (σ : St) : Option (Int32 × St) := f_X11_hang_b46 σ (0 : Int32)
def f_X11_hang (σ : St) : Option (Int32 × St) := if 0 ≤ σ.1 52 0 then (bnd2 (f_X1_missing σ 0) (fun r3 σ4 => if r3 = 0 then (bnd2 (f_X1_wrong σ4 0) (fun r7 σ8 => if r7 = 0 then (f_X11_hang_b46 σ8 (1 : Int32)) else (f_X11_hang_b45 σ8))) else (f_X11_hang_b45 σ4))) else (some ((-5 : Int32), σ))
set_option maxHeartbeats 4000000 in
set_option maxRecDepth 100000 in
theorem w_X11_hang_b46 {p : Program} {l : Launch} {e : Env} {s : State} {m : MethodId} {args : Array Value} {below : List Frame} {meth : Method} {c : Code} {g : va_G} {ts : ClassId × ClassId × ClassId} {A : Nat → Prop} {Q : State → Prop} {a : Nat → Nat} {r : Int32} {σ' : St} (C : FX p s m args meth c RX11 cX11_hang 2 g ts A) (hQ : RetI p l e (rk 2 45) s m args below meth c cX11_hang g (WC ts a) A r σ' Q) : ∀ (σ : St) (s0 : Int32) (H : Heap) (locs : List Loc) (ls : Array Slot), f_X11_hang_b46 σ s0 = some (r, σ') → va_P g classes (WC ts a σ) H → va_D A (WC ts a σ) → va_S A s.heap H locs → lv_has ls 2 [(0, .ref (a 0))] → W p l e (rk 2 45) s m args below meth c H locs 0 0 Q (F0 m 46 ls [.int s0]) := by
  have hx := C.1
  have hb := C.2.1
  have hown := C.2.2.2.1
  have hts := C.2.2.2.2.1
  intro σ s0 H locs ls hf hP hD hS hl
  rw [f_X11_hang_b46] at hf
  refine lv_istore_n (lv' := [(1, .int s0), (0, .ref (a 0))]) hx hb dX11_hang_46 rfl hl (by decide) rfl (fun ls hl => ?_)
  refine lv_aload_n hx hb dX11_hang_47 rfl (lv_at hl 1 rfl) ?_
  refine G_X11_deed C hP q_387 dX11_hang_48 ?_
  refine lv_iload_n hx hb dX11_hang_51 rfl (lv_at hl 0 rfl) ?_
  obtain ⟨σ11, h10, hf⟩ := bnd1_some hf
  refine vV [] C hP hD hS (c_X1_end (show (0 : Nat) < 2 from by decide) h10) mv_X1_end q_940 (rv_X1 (show (0 : Nat) < 2 from by decide)) dX11_hang_52 ⟨Nat.le_of_ble_eq_true rfl, Nat.le_of_ble_eq_true rfl⟩ ⟨Nat.zero_le _, Nat.zero_le _⟩ rfl rfl (Nat.le_of_ble_eq_true rfl) hl.1 (fun H locs hP hD hS => ?_)
  refine lv_iload_n hx hb dX11_hang_55 rfl (lv_at hl 0 rfl) ?_
  refine lv_if_eq (tgt := 63) hx hb dX11_hang_56 (by decide) (fun c12 => ?_) (fun c12 => ?_)
  · replace hf := ipos c12 hf
    refine lv_iconst (v := 0) hx hb dX11_hang_63 (by decide) ?_
    exact retI hQ hf dX11_hang_64 hP hD hS
  · replace hf := ineg c12 hf
    refine lv_iconst (v := 1) hx hb dX11_hang_59 (by decide) ?_
    refine lv_goto (tgt := 64) hx hb dX11_hang_60 (by decide) ?_
    exact retI hQ hf dX11_hang_64 hP hD hS
set_option maxHeartbeats 4000000 in
set_option maxRecDepth 100000 in
theorem w_X11_hang_b45 {p : Program} {l : Launch} {e : Env} {s : State} {m : MethodId} {args : Array Value} {below : List Frame} {meth : Method} {c : Code} {g : va_G} {ts : ClassId × ClassId × ClassId} {A : Nat → Prop} {Q : State → Prop} {a : Nat → Nat} {r : Int32} {σ' : St} (C : FX p s m args meth c RX11 cX11_hang 2 g ts A) (hQ : RetI p l e (rk 2 45) s m args below meth c cX11_hang g (WC ts a) A r σ' Q) : ∀ (σ : St) (H : Heap) (locs : List Loc) (ls : Array Slot), f_X11_hang_b45 σ = some (r, σ') → va_P g classes (WC ts a σ) H → va_D A (WC ts a σ) → va_S A s.heap H locs → lv_has ls 2 [(0, .ref (a 0))] → W p l e (rk 2 45) s m args below meth c H locs 0 0 Q (F0 m 45 ls []) := by
  have hx := C.1
  have hb := C.2.1
  have hown := C.2.2.2.1
  have hts := C.2.2.2.2.1
  intro σ H locs ls hf hP hD hS hl
  rw [f_X11_hang_b45] at hf
  refine lv_iconst (v := 0) hx hb dX11_hang_45 (by decide) ?_
  exact w_X11_hang_b46 C hQ _ _ _ _ _ hf hP hD hS (lv_sub hl [0] rfl)
set_option maxHeartbeats 4000000 in
set_option maxRecDepth 100000 in
theorem c_X11_hang {l : Launch} {g : va_G} {ts : ClassId × ClassId × ClassId} {a : Nat → Nat} {σ : St} {r : Int32} {σ' : St} (hf : f_X11_hang σ = some (r, σ')) : ConI l g ts (WC ts a) yX11_hang cX11_hang 2 (some .int) (rk 2 45) σ [.ref (a 0)] r σ' := by
  refine ConI_mk .int rfl rfl rfl rfl (by decide) (Nat.le_of_ble_eq_true rfl) ?_
  intro p e s m below meth c A Q ls C hQ hP hD hS hl
  have C : FX p s m _ meth c RX11 cX11_hang 2 g ts A := C
  have hx := C.1
  have hb := C.2.1
  have hown := C.2.2.2.1
  have hts := C.2.2.2.2.1
  have hl : lv_has ls 2 [(0, .ref (a 0))] := hl
  rw [f_X11_hang] at hf
  refine lv_aload_n hx hb dX11_hang_0 rfl (lv_at hl 0 rfl) ?_
  refine G_X11_deed C hP q_387 dX11_hang_1 ?_
  refine G_X1_name (show (0 : Nat) < 2 from by decide) C hP q_304 dX11_hang_4 ?_
  refine lv_if_ge (tgt := 13) hx hb dX11_hang_7 (by decide) (fun c1 => ?_) (fun c1 => ?_)
  · replace hf := ipos c1 hf
    refine lv_aload_n hx hb dX11_hang_13 rfl (lv_at hl 0 rfl) ?_
    refine G_X11_deed C hP q_387 dX11_hang_14 ?_
    refine lv_aload_n hx hb dX11_hang_17 rfl (lv_at hl 0 rfl) ?_
    refine G_X11_names C hP q_381 dX11_hang_18 ?_
    obtain ⟨r3, σ4, h2, hf⟩ := bnd2_some hf
    refine vI [] C hP hD hS (c_X1_missing (show (0 : Nat) < 2 from by decide) h2) mv_X1_missing q_931 (rv_X1 (show (0 : Nat) < 2 from by decide)) dX11_hang_21 ⟨Nat.le_of_ble_eq_true rfl, Nat.le_of_ble_eq_true rfl⟩ ⟨Nat.zero_le _, Nat.zero_le _⟩ rfl rfl (Nat.le_of_ble_eq_true rfl) hl.1 (fun H locs hP hD hS => ?_)
    refine lv_if_ne (tgt := 45) hx hb dX11_hang_24 (by decide) (fun c5 => ?_) (fun c5 => ?_)
    · replace hf := ineg c5 hf
      exact w_X11_hang_b45 C hQ _ _ _ _ hf hP hD hS (lv_sub hl [0] rfl)
    · replace hf := ipos c5 hf
      refine lv_aload_n hx hb dX11_hang_27 rfl (lv_at hl 0 rfl) ?_
      refine G_X11_deed C hP q_387 dX11_hang_28 ?_
      refine lv_aload_n hx hb dX11_hang_31 rfl (lv_at hl 0 rfl) ?_
      refine G_X11_names C hP q_381 dX11_hang_32 ?_
      obtain ⟨r7, σ8, h6, hf⟩ := bnd2_some hf
      refine vI [] C hP hD hS (c_X1_wrong (show (0 : Nat) < 2 from by decide) h6) mv_X1_wrong q_935 (rv_X1 (show (0 : Nat) < 2 from by decide)) dX11_hang_35 ⟨Nat.le_of_ble_eq_true rfl, Nat.le_of_ble_eq_true rfl⟩ ⟨Nat.zero_le _, Nat.zero_le _⟩ rfl rfl (Nat.le_of_ble_eq_true rfl) hl.1 (fun H locs hP hD hS => ?_)
      refine lv_if_ne (tgt := 45) hx hb dX11_hang_38 (by decide) (fun c9 => ?_) (fun c9 => ?_)
      · replace hf := ineg c9 hf
        exact w_X11_hang_b45 C hQ _ _ _ _ hf hP hD hS (lv_sub hl [0] rfl)
      · replace hf := ipos c9 hf
        refine lv_iconst (v := 1) hx hb dX11_hang_41 (by decide) ?_
        refine lv_goto (tgt := 46) hx hb dX11_hang_42 (by decide) ?_
        exact w_X11_hang_b46 C hQ _ _ _ _ _ hf hP hD hS (lv_sub hl [0] rfl)
  · replace hf := ineg c1 hf
    refine lv_bipush (v := -5) hx hb dX11_hang_10 (by decide) ?_
    exact retI hQ hf dX11_hang_12 hP hD hS
theorem dX11_led_0 : decode cX11_led 0 = .ok (.iload_n 1, 1) := by decide +kernel
theorem dX11_led_1 : decode cX11_led 1 = .ok (.tableswitch 79 0 4 #[35, 43, 51, 59, 67], 35) := by decide +kernel
theorem dX11_led_36 : decode cX11_led 36 = .ok (.aload_n 0, 1) := by decide +kernel
theorem dX11_led_37 : decode cX11_led 37 = .ok (.getfield 65, 3) := by decide +kernel
theorem dX11_led_40 : decode cX11_led 40 = .ok (.getfield 297, 3) := by decide +kernel
theorem dX11_led_43 : decode cX11_led 43 = .ok (.ireturn, 1) := by decide +kernel
theorem dX11_led_44 : decode cX11_led 44 = .ok (.aload_n 0, 1) := by decide +kernel
theorem dX11_led_45 : decode cX11_led 45 = .ok (.getfield 65, 3) := by decide +kernel
theorem dX11_led_48 : decode cX11_led 48 = .ok (.getfield 300, 3) := by decide +kernel
theorem dX11_led_51 : decode cX11_led 51 = .ok (.ireturn, 1) := by decide +kernel
theorem dX11_led_52 : decode cX11_led 52 = .ok (.aload_n 0, 1) := by decide +kernel
theorem dX11_led_53 : decode cX11_led 53 = .ok (.getfield 65, 3) := by decide +kernel
theorem dX11_led_56 : decode cX11_led 56 = .ok (.getfield 303, 3) := by decide +kernel
theorem dX11_led_59 : decode cX11_led 59 = .ok (.ireturn, 1) := by decide +kernel
theorem dX11_led_60 : decode cX11_led 60 = .ok (.aload_n 0, 1) := by decide +kernel
theorem dX11_led_61 : decode cX11_led 61 = .ok (.getfield 65, 3) := by decide +kernel
theorem dX11_led_64 : decode cX11_led 64 = .ok (.getfield 306, 3) := by decide +kernel
theorem dX11_led_67 : decode cX11_led 67 = .ok (.ireturn, 1) := by decide +kernel
theorem dX11_led_68 : decode cX11_led 68 = .ok (.aload_n 0, 1) := by decide +kernel
theorem dX11_led_69 : decode cX11_led 69 = .ok (.getfield 65, 3) := by decide +kernel
theorem dX11_led_72 : decode cX11_led 72 = .ok (.aload_n 0, 1) := by decide +kernel
theorem dX11_led_73 : decode cX11_led 73 = .ok (.getfield 19, 3) := by decide +kernel
theorem dX11_led_76 : decode cX11_led 76 = .ok (.invokevirtual 290, 3) := by decide +kernel
theorem dX11_led_79 : decode cX11_led 79 = .ok (.ireturn, 1) := by decide +kernel
theorem dX11_led_80 : decode cX11_led 80 = .ok (.iconst (-1), 1) := by decide +kernel
theorem dX11_led_81 : decode cX11_led 81 = .ok (.ireturn, 1) := by decide +kernel
def f_X11_led (σ : St) (p1 : Int32) : Option (Int32 × St) := if p1 = 0 then (some (σ.1 53 0, σ)) else (if p1 = 1 then (some (σ.1 54 0, σ)) else (if p1 = 2 then (some (σ.1 55 0, σ)) else (if p1 = 3 then (some (σ.1 56 0, σ)) else (if p1 = 4 then (bnd2 (f_X1_wrong σ 0) (fun r7 σ8 => some (r7, σ8))) else (some ((-1 : Int32), σ))))))
set_option maxHeartbeats 4000000 in
set_option maxRecDepth 100000 in
theorem c_X11_led {l : Launch} {g : va_G} {ts : ClassId × ClassId × ClassId} {a : Nat → Nat} {σ : St} {p1 : Int32} {r : Int32} {σ' : St} (hf : f_X11_led σ p1 = some (r, σ')) : ConI l g ts (WC ts a) yX11_led cX11_led 2 (some .int) (rk 2 45) σ [.ref (a 0), .int p1] r σ' := by
  refine ConI_mk .int rfl rfl rfl rfl (by decide) (Nat.le_of_ble_eq_true rfl) ?_
  intro p e s m below meth c A Q ls C hQ hP hD hS hl
  have C : FX p s m _ meth c RX11 cX11_led 2 g ts A := C
  have hx := C.1
  have hb := C.2.1
  have hown := C.2.2.2.1
  have hts := C.2.2.2.2.1
  have hl : lv_has ls 2 [(0, .ref (a 0)), (1, .int p1)] := hl
  rw [f_X11_led] at hf
  refine lv_iload_n hx hb dX11_led_0 rfl (lv_at hl 1 rfl) ?_
  by_cases c1 : p1 = 0
  · replace hf := ipos c1 hf
    refine lv_tableIn (off := 35) (tgt := 36) hx hb dX11_led_1 (by rw [c1]; decide) (by rw [c1]; decide) (by rw [c1]; rfl) (by decide) ?_
    refine lv_aload_n hx hb dX11_led_36 rfl (lv_at hl 0 rfl) ?_
    refine G_X11_deed C hP q_387 dX11_led_37 ?_
    refine G_X1_calls (show (0 : Nat) < 2 from by decide) C hP q_306 dX11_led_40 ?_
    exact retI hQ hf dX11_led_43 hP hD hS
  · replace hf := ineg c1 hf
    by_cases c2 : p1 = 1
    · replace hf := ipos c2 hf
      refine lv_tableIn (off := 43) (tgt := 44) hx hb dX11_led_1 (by rw [c2]; decide) (by rw [c2]; decide) (by rw [c2]; rfl) (by decide) ?_
      refine lv_aload_n hx hb dX11_led_44 rfl (lv_at hl 0 rfl) ?_
      refine G_X11_deed C hP q_387 dX11_led_45 ?_
      refine G_X1_rightCalls (show (0 : Nat) < 2 from by decide) C hP q_308 dX11_led_48 ?_
      exact retI hQ hf dX11_led_51 hP hD hS
    · replace hf := ineg c2 hf
      by_cases c3 : p1 = 2
      · replace hf := ipos c3 hf
        refine lv_tableIn (off := 51) (tgt := 52) hx hb dX11_led_1 (by rw [c3]; decide) (by rw [c3]; decide) (by rw [c3]; rfl) (by decide) ?_
        refine lv_aload_n hx hb dX11_led_52 rfl (lv_at hl 0 rfl) ?_
        refine G_X11_deed C hP q_387 dX11_led_53 ?_
        refine G_X1_spent (show (0 : Nat) < 2 from by decide) C hP q_310 dX11_led_56 ?_
        exact retI hQ hf dX11_led_59 hP hD hS
      · replace hf := ineg c3 hf
        by_cases c4 : p1 = 3
        · replace hf := ipos c4 hf
          refine lv_tableIn (off := 59) (tgt := 60) hx hb dX11_led_1 (by rw [c4]; decide) (by rw [c4]; decide) (by rw [c4]; rfl) (by decide) ?_
          refine lv_aload_n hx hb dX11_led_60 rfl (lv_at hl 0 rfl) ?_
          refine G_X11_deed C hP q_387 dX11_led_61 ?_
          refine G_X1_spoken (show (0 : Nat) < 2 from by decide) C hP q_312 dX11_led_64 ?_
          exact retI hQ hf dX11_led_67 hP hD hS
        · replace hf := ineg c4 hf
          by_cases c5 : p1 = 4
          · replace hf := ipos c5 hf
            refine lv_tableIn (off := 67) (tgt := 68) hx hb dX11_led_1 (by rw [c5]; decide) (by rw [c5]; decide) (by rw [c5]; rfl) (by decide) ?_
            refine lv_aload_n hx hb dX11_led_68 rfl (lv_at hl 0 rfl) ?_
            refine G_X11_deed C hP q_387 dX11_led_69 ?_
            refine lv_aload_n hx hb dX11_led_72 rfl (lv_at hl 0 rfl) ?_
            refine G_X11_names C hP q_381 dX11_led_73 ?_
            obtain ⟨r7, σ8, h6, hf⟩ := bnd2_some hf
            refine vI [] C hP hD hS (c_X1_wrong (show (0 : Nat) < 2 from by decide) h6) mv_X1_wrong q_935 (rv_X1 (show (0 : Nat) < 2 from by decide)) dX11_led_76 ⟨Nat.le_of_ble_eq_true rfl, Nat.le_of_ble_eq_true rfl⟩ ⟨Nat.zero_le _, Nat.zero_le _⟩ rfl rfl (Nat.le_of_ble_eq_true rfl) hl.1 (fun H locs hP hD hS => ?_)
            exact retI hQ hf dX11_led_79 hP hD hS
          · replace hf := ineg c5 hf
            refine lv_tableOut (tgt := 80) hx hb dX11_led_1 (by have uc1 := lv_neT c1 (a := 0) (by decide); have uc2 := lv_neT c2 (a := 1) (by decide); have uc3 := lv_neT c3 (a := 2) (by decide); have uc4 := lv_neT c4 (a := 3) (by decide); have uc5 := lv_neT c5 (a := 4) (by decide); omega) (by decide) ?_
            refine lv_iconst (v := -1) hx hb dX11_led_80 (by decide) ?_
            exact retI hQ hf dX11_led_81 hP hD hS
theorem dX11_image_0 : decode cX11_image 0 = .ok (.aload_n 0, 1) := by decide +kernel
theorem dX11_image_1 : decode cX11_image 1 = .ok (.getfield 69, 3) := by decide +kernel
theorem dX11_image_4 : decode cX11_image 4 = .ok (.aload_n 0, 1) := by decide +kernel
theorem dX11_image_5 : decode cX11_image 5 = .ok (.getfield 65, 3) := by decide +kernel
theorem dX11_image_8 : decode cX11_image 8 = .ok (.invokevirtual 309, 3) := by decide +kernel
theorem dX11_image_11 : decode cX11_image 11 = .ok (.aload_n 0, 1) := by decide +kernel
theorem dX11_image_12 : decode cX11_image 12 = .ok (.iconst 1, 1) := by decide +kernel
theorem dX11_image_13 : decode cX11_image 13 = .ok (.putfield 313, 3) := by decide +kernel
theorem dX11_image_16 : decode cX11_image 16 = .ok (.aload_n 0, 1) := by decide +kernel
theorem dX11_image_17 : decode cX11_image 17 = .ok (.getfield 65, 3) := by decide +kernel
theorem dX11_image_20 : decode cX11_image 20 = .ok (.getfield 297, 3) := by decide +kernel
theorem dX11_image_23 : decode cX11_image 23 = .ok (.ireturn, 1) := by decide +kernel
def f_X11_image (σ : St) : Option (Int32 × St) := bnd1 (f_X1_become σ 1 0) (fun σ2 => some ((sI σ2 561 0 (1 : Int32)).1 53 0, sI σ2 561 0 (1 : Int32)))
set_option maxHeartbeats 4000000 in
set_option maxRecDepth 100000 in
theorem c_X11_image {l : Launch} {g : va_G} {ts : ClassId × ClassId × ClassId} {a : Nat → Nat} {σ : St} {r : Int32} {σ' : St} (hf : f_X11_image σ = some (r, σ')) : ConI l g ts (WC ts a) yX11_image cX11_image 1 (some .int) (rk 2 69) σ [.ref (a 0)] r σ' := by
  refine ConI_mk .int rfl rfl rfl rfl (by decide) (Nat.le_of_ble_eq_true rfl) ?_
  intro p e s m below meth c A Q ls C hQ hP hD hS hl
  have C : FX p s m _ meth c RX11 cX11_image 1 g ts A := C
  have hx := C.1
  have hb := C.2.1
  have hown := C.2.2.2.1
  have hts := C.2.2.2.2.1
  have hl : lv_has ls 1 [(0, .ref (a 0))] := hl
  rw [f_X11_image] at hf
  refine lv_aload_n hx hb dX11_image_0 rfl (lv_at hl 0 rfl) ?_
  refine G_X11_kept C hP q_388 dX11_image_1 ?_
  refine lv_aload_n hx hb dX11_image_4 rfl (lv_at hl 0 rfl) ?_
  refine G_X11_deed C hP q_387 dX11_image_5 ?_
  obtain ⟨σ2, h1, hf⟩ := bnd1_some hf
  refine vV [] C hP hD hS (c_X1_become (show (1 : Nat) < 2 from by decide) (show (0 : Nat) < 2 from by decide) h1) mv_X1_become q_952 (rv_X1 (show (1 : Nat) < 2 from by decide)) dX11_image_8 ⟨Nat.le_of_ble_eq_true rfl, Nat.le_of_ble_eq_true rfl⟩ ⟨Nat.zero_le _, Nat.zero_le _⟩ rfl rfl (Nat.le_of_ble_eq_true rfl) hl.1 (fun H locs hP hD hS => ?_)
  refine lv_aload_n hx hb dX11_image_11 rfl (lv_at hl 0 rfl) ?_
  refine lv_iconst (v := 1) hx hb dX11_image_12 (by decide) ?_
  refine S_X11_imaged rfl rfl C hP hD hS q_391 dX11_image_13 (fun H locs hP hD hS => ?_)
  refine lv_aload_n hx hb dX11_image_16 rfl (lv_at hl 0 rfl) ?_
  refine G_X11_deed C hP q_387 dX11_image_17 ?_
  refine G_X1_calls (show (0 : Nat) < 2 from by decide) C hP q_306 dX11_image_20 ?_
  exact retI hQ hf dX11_image_23 hP hD hS
theorem dX11_back_0 : decode cX11_back 0 = .ok (.aload_n 0, 1) := by decide +kernel
theorem dX11_back_1 : decode cX11_back 1 = .ok (.getfield 313, 3) := by decide +kernel
theorem dX11_back_4 : decode cX11_back 4 = .ok (.ifCond .ne 6, 3) := by decide +kernel
theorem dX11_back_7 : decode cX11_back 7 = .ok (.bipush (-5), 2) := by decide +kernel
theorem dX11_back_9 : decode cX11_back 9 = .ok (.ireturn, 1) := by decide +kernel
theorem dX11_back_10 : decode cX11_back 10 = .ok (.aload_n 0, 1) := by decide +kernel
theorem dX11_back_11 : decode cX11_back 11 = .ok (.getfield 65, 3) := by decide +kernel
theorem dX11_back_14 : decode cX11_back 14 = .ok (.aload_n 0, 1) := by decide +kernel
theorem dX11_back_15 : decode cX11_back 15 = .ok (.getfield 69, 3) := by decide +kernel
theorem dX11_back_18 : decode cX11_back 18 = .ok (.invokevirtual 309, 3) := by decide +kernel
theorem dX11_back_21 : decode cX11_back 21 = .ok (.aload_n 0, 1) := by decide +kernel
theorem dX11_back_22 : decode cX11_back 22 = .ok (.getfield 65, 3) := by decide +kernel
theorem dX11_back_25 : decode cX11_back 25 = .ok (.getfield 297, 3) := by decide +kernel
theorem dX11_back_28 : decode cX11_back 28 = .ok (.ireturn, 1) := by decide +kernel
def f_X11_back (σ : St) : Option (Int32 × St) := if σ.1 561 0 = 0 then (some ((-5 : Int32), σ)) else (bnd1 (f_X1_become σ 0 1) (fun σ3 => some (σ3.1 53 0, σ3)))
set_option maxHeartbeats 4000000 in
set_option maxRecDepth 100000 in
theorem c_X11_back {l : Launch} {g : va_G} {ts : ClassId × ClassId × ClassId} {a : Nat → Nat} {σ : St} {r : Int32} {σ' : St} (hf : f_X11_back σ = some (r, σ')) : ConI l g ts (WC ts a) yX11_back cX11_back 1 (some .int) (rk 2 69) σ [.ref (a 0)] r σ' := by
  refine ConI_mk .int rfl rfl rfl rfl (by decide) (Nat.le_of_ble_eq_true rfl) ?_
  intro p e s m below meth c A Q ls C hQ hP hD hS hl
  have C : FX p s m _ meth c RX11 cX11_back 1 g ts A := C
  have hx := C.1
  have hb := C.2.1
  have hown := C.2.2.2.1
  have hts := C.2.2.2.2.1
  have hl : lv_has ls 1 [(0, .ref (a 0))] := hl
  rw [f_X11_back] at hf
  refine lv_aload_n hx hb dX11_back_0 rfl (lv_at hl 0 rfl) ?_
  refine G_X11_imaged C hP q_391 dX11_back_1 ?_
  refine lv_if_ne (tgt := 10) hx hb dX11_back_4 (by decide) (fun c1 => ?_) (fun c1 => ?_)
  · replace hf := ineg c1 hf
    refine lv_aload_n hx hb dX11_back_10 rfl (lv_at hl 0 rfl) ?_
    refine G_X11_deed C hP q_387 dX11_back_11 ?_
    refine lv_aload_n hx hb dX11_back_14 rfl (lv_at hl 0 rfl) ?_
    refine G_X11_kept C hP q_388 dX11_back_15 ?_
    obtain ⟨σ3, h2, hf⟩ := bnd1_some hf
    refine vV [] C hP hD hS (c_X1_become (show (0 : Nat) < 2 from by decide) (show (1 : Nat) < 2 from by decide) h2) mv_X1_become q_952 (rv_X1 (show (0 : Nat) < 2 from by decide)) dX11_back_18 ⟨Nat.le_of_ble_eq_true rfl, Nat.le_of_ble_eq_true rfl⟩ ⟨Nat.zero_le _, Nat.zero_le _⟩ rfl rfl (Nat.le_of_ble_eq_true rfl) hl.1 (fun H locs hP hD hS => ?_)
    refine lv_aload_n hx hb dX11_back_21 rfl (lv_at hl 0 rfl) ?_
    refine G_X11_deed C hP q_387 dX11_back_22 ?_
    refine G_X1_calls (show (0 : Nat) < 2 from by decide) C hP q_306 dX11_back_25 ?_
    exact retI hQ hf dX11_back_28 hP hD hS
  · replace hf := ipos c1 hf
    refine lv_bipush (v := -5) hx hb dX11_back_7 (by decide) ?_
    exact retI hQ hf dX11_back_9 hP hD hS
theorem dX11_undo_0 : decode cX11_undo 0 = .ok (.aload_n 0, 1) := by decide +kernel
theorem dX11_undo_1 : decode cX11_undo 1 = .ok (.getfield 58, 3) := by decide +kernel
theorem dX11_undo_4 : decode cX11_undo 4 = .ok (.invokevirtual 317, 3) := by decide +kernel
theorem dX11_undo_7 : decode cX11_undo 7 = .ok (.istore_n 1, 1) := by decide +kernel
theorem dX11_undo_8 : decode cX11_undo 8 = .ok (.iload_n 1, 1) := by decide +kernel
theorem dX11_undo_9 : decode cX11_undo 9 = .ok (.ifCond .ge 6, 3) := by decide +kernel
theorem dX11_undo_12 : decode cX11_undo 12 = .ok (.bipush (-5), 2) := by decide +kernel
theorem dX11_undo_14 : decode cX11_undo 14 = .ok (.ireturn, 1) := by decide +kernel
theorem dX11_undo_15 : decode cX11_undo 15 = .ok (.aload_n 0, 1) := by decide +kernel
theorem dX11_undo_16 : decode cX11_undo 16 = .ok (.aload_n 0, 1) := by decide +kernel
theorem dX11_undo_17 : decode cX11_undo 17 = .ok (.getfield 58, 3) := by decide +kernel
theorem dX11_undo_20 : decode cX11_undo 20 = .ok (.getfield 320, 3) := by decide +kernel
theorem dX11_undo_23 : decode cX11_undo 23 = .ok (.iload_n 1, 1) := by decide +kernel
theorem dX11_undo_24 : decode cX11_undo 24 = .ok (.iaload, 1) := by decide +kernel
theorem dX11_undo_25 : decode cX11_undo 25 = .ok (.aload_n 0, 1) := by decide +kernel
theorem dX11_undo_26 : decode cX11_undo 26 = .ok (.getfield 58, 3) := by decide +kernel
theorem dX11_undo_29 : decode cX11_undo 29 = .ok (.getfield 323, 3) := by decide +kernel
theorem dX11_undo_32 : decode cX11_undo 32 = .ok (.iload_n 1, 1) := by decide +kernel
theorem dX11_undo_33 : decode cX11_undo 33 = .ok (.iaload, 1) := by decide +kernel
theorem dX11_undo_34 : decode cX11_undo 34 = .ok (.aload_n 0, 1) := by decide +kernel
theorem dX11_undo_35 : decode cX11_undo 35 = .ok (.getfield 58, 3) := by decide +kernel
theorem dX11_undo_38 : decode cX11_undo 38 = .ok (.getfield 326, 3) := by decide +kernel
theorem dX11_undo_41 : decode cX11_undo 41 = .ok (.iload_n 1, 1) := by decide +kernel
theorem dX11_undo_42 : decode cX11_undo 42 = .ok (.iaload, 1) := by decide +kernel
theorem dX11_undo_43 : decode cX11_undo 43 = .ok (.invokevirtual 112, 3) := by decide +kernel
theorem dX11_undo_46 : decode cX11_undo 46 = .ok (.aload_n 0, 1) := by decide +kernel
theorem dX11_undo_47 : decode cX11_undo 47 = .ok (.getfield 58, 3) := by decide +kernel
theorem dX11_undo_50 : decode cX11_undo 50 = .ok (.getfield 329, 3) := by decide +kernel
theorem dX11_undo_53 : decode cX11_undo 53 = .ok (.ireturn, 1) := by decide +kernel
def f_X11_undo (σ : St) : Option (Int32 × St) := bnd2 (f_X0_stepBack σ) (fun r2 σ3 => if 0 ≤ r2 then (chk (r2 < 0 ∨ 40 ≤ r2.toNatClampNeg) (chk (r2 < 0 ∨ 40 ≤ r2.toNatClampNeg) (chk (r2 < 0 ∨ 40 ≤ r2.toNatClampNeg) (bnd1 (f_X11_tellAnew σ3 (σ3.2.2.1 0 0 r2.toNatClampNeg) (σ3.2.2.1 1 0 r2.toNatClampNeg) (σ3.2.2.1 2 0 r2.toNatClampNeg)) (fun σ9 => some (σ9.1 4 0, σ9)))))) else (some ((-5 : Int32), σ3)))
set_option maxHeartbeats 4000000 in
set_option maxRecDepth 100000 in
theorem c_X11_undo {l : Launch} {g : va_G} {ts : ClassId × ClassId × ClassId} {a : Nat → Nat} {σ : St} {r : Int32} {σ' : St} (hf : f_X11_undo σ = some (r, σ')) : ConI l g ts (WC ts a) yX11_undo cX11_undo 2 (some .int) (rk 3 67) σ [.ref (a 0)] r σ' := by
  refine ConI_mk .int rfl rfl rfl rfl (by decide) (Nat.le_of_ble_eq_true rfl) ?_
  intro p e s m below meth c A Q ls C hQ hP hD hS hl
  have C : FX p s m _ meth c RX11 cX11_undo 2 g ts A := C
  have hx := C.1
  have hb := C.2.1
  have hown := C.2.2.2.1
  have hts := C.2.2.2.2.1
  have hl : lv_has ls 2 [(0, .ref (a 0))] := hl
  rw [f_X11_undo] at hf
  refine lv_aload_n hx hb dX11_undo_0 rfl (lv_at hl 0 rfl) ?_
  refine G_X11_changes C hP q_386 dX11_undo_1 ?_
  obtain ⟨r2, σ3, h1, hf⟩ := bnd2_some hf
  refine vI [] C hP hD hS (c_X0_stepBack h1) mv_X0_stepBack q_967 rv_X0 dX11_undo_4 ⟨Nat.le_of_ble_eq_true rfl, Nat.le_of_ble_eq_true rfl⟩ ⟨Nat.zero_le _, Nat.zero_le _⟩ rfl rfl (Nat.le_of_ble_eq_true rfl) hl.1 (fun H locs hP hD hS => ?_)
  refine lv_istore_n (lv' := [(1, .int r2), (0, .ref (a 0))]) hx hb dX11_undo_7 rfl hl (by decide) rfl (fun ls hl => ?_)
  refine lv_iload_n hx hb dX11_undo_8 rfl (lv_at hl 0 rfl) ?_
  refine lv_if_ge (tgt := 15) hx hb dX11_undo_9 (by decide) (fun c4 => ?_) (fun c4 => ?_)
  · replace hf := ipos c4 hf
    refine lv_aload_n hx hb dX11_undo_15 rfl (lv_at hl 1 rfl) ?_
    refine lv_aload_n hx hb dX11_undo_16 rfl (lv_at hl 1 rfl) ?_
    refine G_X11_changes C hP q_386 dX11_undo_17 ?_
    refine G_X0_numbers C hP q_266 dX11_undo_20 ?_
    refine lv_iload_n hx hb dX11_undo_23 rfl (lv_at hl 0 rfl) ?_
    obtain ⟨h5, hf⟩ := chk_some hf
    refine AL_X0_numbers C hP h5 dX11_undo_24 ?_
    refine lv_aload_n hx hb dX11_undo_25 rfl (lv_at hl 1 rfl) ?_
    refine G_X11_changes C hP q_386 dX11_undo_26 ?_
    refine G_X0_kinds C hP q_268 dX11_undo_29 ?_
    refine lv_iload_n hx hb dX11_undo_32 rfl (lv_at hl 0 rfl) ?_
    obtain ⟨h6, hf⟩ := chk_some hf
    refine AL_X0_kinds C hP h6 dX11_undo_33 ?_
    refine lv_aload_n hx hb dX11_undo_34 rfl (lv_at hl 1 rfl) ?_
    refine G_X11_changes C hP q_386 dX11_undo_35 ?_
    refine G_X0_before C hP q_270 dX11_undo_38 ?_
    refine lv_iload_n hx hb dX11_undo_41 rfl (lv_at hl 0 rfl) ?_
    obtain ⟨h7, hf⟩ := chk_some hf
    refine AL_X0_before C hP h7 dX11_undo_42 ?_
    obtain ⟨σ9, h8, hf⟩ := bnd1_some hf
    refine vV [] C hP hD hS (c_X11_tellAnew h8) mv_X11_tellAnew q_480 rv_X11 dX11_undo_43 ⟨Nat.le_of_ble_eq_true rfl, Nat.le_of_ble_eq_true rfl⟩ ⟨Nat.zero_le _, Nat.zero_le _⟩ rfl rfl (Nat.le_of_ble_eq_true rfl) hl.1 (fun H locs hP hD hS => ?_)
    refine lv_aload_n hx hb dX11_undo_46 rfl (lv_at hl 1 rfl) ?_
    refine G_X11_changes C hP q_386 dX11_undo_47 ?_
    refine G_X0_done C hP q_274 dX11_undo_50 ?_
    exact retI hQ hf dX11_undo_53 hP hD hS
  · replace hf := ineg c4 hf
    refine lv_bipush (v := -5) hx hb dX11_undo_12 (by decide) ?_
    exact retI hQ hf dX11_undo_14 hP hD hS
theorem dX11_redo_0 : decode cX11_redo 0 = .ok (.aload_n 0, 1) := by decide +kernel
theorem dX11_redo_1 : decode cX11_redo 1 = .ok (.getfield 58, 3) := by decide +kernel
theorem dX11_redo_4 : decode cX11_redo 4 = .ok (.invokevirtual 332, 3) := by decide +kernel
theorem dX11_redo_7 : decode cX11_redo 7 = .ok (.istore_n 1, 1) := by decide +kernel
theorem dX11_redo_8 : decode cX11_redo 8 = .ok (.iload_n 1, 1) := by decide +kernel
theorem dX11_redo_9 : decode cX11_redo 9 = .ok (.ifCond .ge 6, 3) := by decide +kernel
theorem dX11_redo_12 : decode cX11_redo 12 = .ok (.bipush (-5), 2) := by decide +kernel
theorem dX11_redo_14 : decode cX11_redo 14 = .ok (.ireturn, 1) := by decide +kernel
theorem dX11_redo_15 : decode cX11_redo 15 = .ok (.aload_n 0, 1) := by decide +kernel
theorem dX11_redo_16 : decode cX11_redo 16 = .ok (.aload_n 0, 1) := by decide +kernel
theorem dX11_redo_17 : decode cX11_redo 17 = .ok (.getfield 58, 3) := by decide +kernel
theorem dX11_redo_20 : decode cX11_redo 20 = .ok (.getfield 320, 3) := by decide +kernel
theorem dX11_redo_23 : decode cX11_redo 23 = .ok (.iload_n 1, 1) := by decide +kernel
theorem dX11_redo_24 : decode cX11_redo 24 = .ok (.iaload, 1) := by decide +kernel
theorem dX11_redo_25 : decode cX11_redo 25 = .ok (.aload_n 0, 1) := by decide +kernel
theorem dX11_redo_26 : decode cX11_redo 26 = .ok (.getfield 58, 3) := by decide +kernel
theorem dX11_redo_29 : decode cX11_redo 29 = .ok (.getfield 323, 3) := by decide +kernel
theorem dX11_redo_32 : decode cX11_redo 32 = .ok (.iload_n 1, 1) := by decide +kernel
theorem dX11_redo_33 : decode cX11_redo 33 = .ok (.iaload, 1) := by decide +kernel
theorem dX11_redo_34 : decode cX11_redo 34 = .ok (.aload_n 0, 1) := by decide +kernel
theorem dX11_redo_35 : decode cX11_redo 35 = .ok (.getfield 58, 3) := by decide +kernel
theorem dX11_redo_38 : decode cX11_redo 38 = .ok (.getfield 335, 3) := by decide +kernel
theorem dX11_redo_41 : decode cX11_redo 41 = .ok (.iload_n 1, 1) := by decide +kernel
theorem dX11_redo_42 : decode cX11_redo 42 = .ok (.iaload, 1) := by decide +kernel
theorem dX11_redo_43 : decode cX11_redo 43 = .ok (.invokevirtual 112, 3) := by decide +kernel
theorem dX11_redo_46 : decode cX11_redo 46 = .ok (.aload_n 0, 1) := by decide +kernel
theorem dX11_redo_47 : decode cX11_redo 47 = .ok (.getfield 58, 3) := by decide +kernel
theorem dX11_redo_50 : decode cX11_redo 50 = .ok (.getfield 338, 3) := by decide +kernel
theorem dX11_redo_53 : decode cX11_redo 53 = .ok (.ireturn, 1) := by decide +kernel
def f_X11_redo (σ : St) : Option (Int32 × St) := bnd2 (f_X0_stepOn σ) (fun r2 σ3 => if 0 ≤ r2 then (chk (r2 < 0 ∨ 40 ≤ r2.toNatClampNeg) (chk (r2 < 0 ∨ 40 ≤ r2.toNatClampNeg) (chk (r2 < 0 ∨ 40 ≤ r2.toNatClampNeg) (bnd1 (f_X11_tellAnew σ3 (σ3.2.2.1 0 0 r2.toNatClampNeg) (σ3.2.2.1 1 0 r2.toNatClampNeg) (σ3.2.2.1 3 0 r2.toNatClampNeg)) (fun σ9 => some (σ9.1 5 0, σ9)))))) else (some ((-5 : Int32), σ3)))
set_option maxHeartbeats 4000000 in
set_option maxRecDepth 100000 in
theorem c_X11_redo {l : Launch} {g : va_G} {ts : ClassId × ClassId × ClassId} {a : Nat → Nat} {σ : St} {r : Int32} {σ' : St} (hf : f_X11_redo σ = some (r, σ')) : ConI l g ts (WC ts a) yX11_redo cX11_redo 2 (some .int) (rk 3 67) σ [.ref (a 0)] r σ' := by
  refine ConI_mk .int rfl rfl rfl rfl (by decide) (Nat.le_of_ble_eq_true rfl) ?_
  intro p e s m below meth c A Q ls C hQ hP hD hS hl
  have C : FX p s m _ meth c RX11 cX11_redo 2 g ts A := C
  have hx := C.1
  have hb := C.2.1
  have hown := C.2.2.2.1
  have hts := C.2.2.2.2.1
  have hl : lv_has ls 2 [(0, .ref (a 0))] := hl
  rw [f_X11_redo] at hf
  refine lv_aload_n hx hb dX11_redo_0 rfl (lv_at hl 0 rfl) ?_
  refine G_X11_changes C hP q_386 dX11_redo_1 ?_
  obtain ⟨r2, σ3, h1, hf⟩ := bnd2_some hf
  refine vI [] C hP hD hS (c_X0_stepOn h1) mv_X0_stepOn q_975 rv_X0 dX11_redo_4 ⟨Nat.le_of_ble_eq_true rfl, Nat.le_of_ble_eq_true rfl⟩ ⟨Nat.zero_le _, Nat.zero_le _⟩ rfl rfl (Nat.le_of_ble_eq_true rfl) hl.1 (fun H locs hP hD hS => ?_)
  refine lv_istore_n (lv' := [(1, .int r2), (0, .ref (a 0))]) hx hb dX11_redo_7 rfl hl (by decide) rfl (fun ls hl => ?_)
  refine lv_iload_n hx hb dX11_redo_8 rfl (lv_at hl 0 rfl) ?_
  refine lv_if_ge (tgt := 15) hx hb dX11_redo_9 (by decide) (fun c4 => ?_) (fun c4 => ?_)
  · replace hf := ipos c4 hf
    refine lv_aload_n hx hb dX11_redo_15 rfl (lv_at hl 1 rfl) ?_
    refine lv_aload_n hx hb dX11_redo_16 rfl (lv_at hl 1 rfl) ?_
    refine G_X11_changes C hP q_386 dX11_redo_17 ?_
    refine G_X0_numbers C hP q_266 dX11_redo_20 ?_
    refine lv_iload_n hx hb dX11_redo_23 rfl (lv_at hl 0 rfl) ?_
    obtain ⟨h5, hf⟩ := chk_some hf
    refine AL_X0_numbers C hP h5 dX11_redo_24 ?_
    refine lv_aload_n hx hb dX11_redo_25 rfl (lv_at hl 1 rfl) ?_
    refine G_X11_changes C hP q_386 dX11_redo_26 ?_
    refine G_X0_kinds C hP q_268 dX11_redo_29 ?_
    refine lv_iload_n hx hb dX11_redo_32 rfl (lv_at hl 0 rfl) ?_
    obtain ⟨h6, hf⟩ := chk_some hf
    refine AL_X0_kinds C hP h6 dX11_redo_33 ?_
    refine lv_aload_n hx hb dX11_redo_34 rfl (lv_at hl 1 rfl) ?_
    refine G_X11_changes C hP q_386 dX11_redo_35 ?_
    refine G_X0_behind C hP q_272 dX11_redo_38 ?_
    refine lv_iload_n hx hb dX11_redo_41 rfl (lv_at hl 0 rfl) ?_
    obtain ⟨h7, hf⟩ := chk_some hf
    refine AL_X0_behind C hP h7 dX11_redo_42 ?_
    obtain ⟨σ9, h8, hf⟩ := bnd1_some hf
    refine vV [] C hP hD hS (c_X11_tellAnew h8) mv_X11_tellAnew q_480 rv_X11 dX11_redo_43 ⟨Nat.le_of_ble_eq_true rfl, Nat.le_of_ble_eq_true rfl⟩ ⟨Nat.zero_le _, Nat.zero_le _⟩ rfl rfl (Nat.le_of_ble_eq_true rfl) hl.1 (fun H locs hP hD hS => ?_)
    refine lv_aload_n hx hb dX11_redo_46 rfl (lv_at hl 1 rfl) ?_
    refine G_X11_changes C hP q_386 dX11_redo_47 ?_
    refine G_X0_undone C hP q_276 dX11_redo_50 ?_
    exact retI hQ hf dX11_redo_53 hP hD hS
  · replace hf := ineg c4 hf
    refine lv_bipush (v := -5) hx hb dX11_redo_12 (by decide) ?_
    exact retI hQ hf dX11_redo_14 hP hD hS
theorem dX11_body_0 : decode cX11_body 0 = .ok (.iload_n 1, 1) := by decide +kernel
theorem dX11_body_1 : decode cX11_body 1 = .ok (.ifCond .lt 9, 3) := by decide +kernel
theorem dX11_body_4 : decode cX11_body 4 = .ok (.iload_n 1, 1) := by decide +kernel
theorem dX11_body_5 : decode cX11_body 5 = .ok (.bipush 8, 2) := by decide +kernel
theorem dX11_body_7 : decode cX11_body 7 = .ok (.if_icmp .lt 5, 3) := by decide +kernel
theorem dX11_body_10 : decode cX11_body 10 = .ok (.iconst (-1), 1) := by decide +kernel
theorem dX11_body_11 : decode cX11_body 11 = .ok (.ireturn, 1) := by decide +kernel
theorem dX11_body_12 : decode cX11_body 12 = .ok (.aload_n 0, 1) := by decide +kernel
theorem dX11_body_13 : decode cX11_body 13 = .ok (.getfield 75, 3) := by decide +kernel
theorem dX11_body_16 : decode cX11_body 16 = .ok (.getfield 341, 3) := by decide +kernel
theorem dX11_body_19 : decode cX11_body 19 = .ok (.bipush 50, 2) := by decide +kernel
theorem dX11_body_21 : decode cX11_body 21 = .ok (.if_icmp .lt 8, 3) := by decide +kernel
theorem dX11_body_24 : decode cX11_body 24 = .ok (.bipush (-3), 2) := by decide +kernel
theorem dX11_body_26 : decode cX11_body 26 = .ok (.goto 11, 3) := by decide +kernel
theorem dX11_body_29 : decode cX11_body 29 = .ok (.aload_n 0, 1) := by decide +kernel
theorem dX11_body_30 : decode cX11_body 30 = .ok (.getfield 75, 3) := by decide +kernel
theorem dX11_body_33 : decode cX11_body 33 = .ok (.iload_n 1, 1) := by decide +kernel
theorem dX11_body_34 : decode cX11_body 34 = .ok (.invokevirtual 342, 3) := by decide +kernel
theorem dX11_body_37 : decode cX11_body 37 = .ok (.ireturn, 1) := by decide +kernel
def f_X11_body (σ : St) (p1 : Int32) : Option (Int32 × St) := if p1 < 0 then (some ((-1 : Int32), σ)) else (if p1 < (8 : Int32) then (if σ.1 502 0 < (50 : Int32) then (bnd2 (f_X10_make σ p1) (fun r5 σ6 => some (r5, σ6))) else (some ((-3 : Int32), σ))) else (some ((-1 : Int32), σ)))
set_option maxHeartbeats 4000000 in
set_option maxRecDepth 100000 in
theorem c_X11_body {l : Launch} {g : va_G} {ts : ClassId × ClassId × ClassId} {a : Nat → Nat} {σ : St} {p1 : Int32} {r : Int32} {σ' : St} (hf : f_X11_body σ p1 = some (r, σ')) : ConI l g ts (WC ts a) yX11_body cX11_body 2 (some .int) (rk 1 21) σ [.ref (a 0), .int p1] r σ' := by
  refine ConI_mk .int rfl rfl rfl rfl (by decide) (Nat.le_of_ble_eq_true rfl) ?_
  intro p e s m below meth c A Q ls C hQ hP hD hS hl
  have C : FX p s m _ meth c RX11 cX11_body 2 g ts A := C
  have hx := C.1
  have hb := C.2.1
  have hown := C.2.2.2.1
  have hts := C.2.2.2.2.1
  have hl : lv_has ls 2 [(0, .ref (a 0)), (1, .int p1)] := hl
  rw [f_X11_body] at hf
  refine lv_iload_n hx hb dX11_body_0 rfl (lv_at hl 1 rfl) ?_
  refine lv_if_lt (tgt := 10) hx hb dX11_body_1 (by decide) (fun c1 => ?_) (fun c1 => ?_)
  · replace hf := ipos c1 hf
    refine lv_iconst (v := -1) hx hb dX11_body_10 (by decide) ?_
    exact retI hQ hf dX11_body_11 hP hD hS
  · replace hf := ineg c1 hf
    refine lv_iload_n hx hb dX11_body_4 rfl (lv_at hl 1 rfl) ?_
    refine lv_bipush (v := 8) hx hb dX11_body_5 (by decide) ?_
    refine lv_icmp_lt (tgt := 12) hx hb dX11_body_7 (by decide) (fun c2 => ?_) (fun c2 => ?_)
    · replace hf := ipos c2 hf
      refine lv_aload_n hx hb dX11_body_12 rfl (lv_at hl 0 rfl) ?_
      refine G_X11_spellings C hP q_389 dX11_body_13 ?_
      refine G_X10_number C hP q_342 dX11_body_16 ?_
      refine lv_bipush (v := 50) hx hb dX11_body_19 (by decide) ?_
      refine lv_icmp_lt (tgt := 29) hx hb dX11_body_21 (by decide) (fun c3 => ?_) (fun c3 => ?_)
      · replace hf := ipos c3 hf
        refine lv_aload_n hx hb dX11_body_29 rfl (lv_at hl 0 rfl) ?_
        refine G_X11_spellings C hP q_389 dX11_body_30 ?_
        refine lv_iload_n hx hb dX11_body_33 rfl (lv_at hl 1 rfl) ?_
        obtain ⟨r5, σ6, h4, hf⟩ := bnd2_some hf
        refine vI [] C hP hD hS (c_X10_make h4) mv_X10_make q_983 rv_X10 dX11_body_34 ⟨Nat.le_of_ble_eq_true rfl, Nat.le_of_ble_eq_true rfl⟩ ⟨Nat.zero_le _, Nat.zero_le _⟩ rfl rfl (Nat.le_of_ble_eq_true rfl) hl.1 (fun H locs hP hD hS => ?_)
        exact retI hQ hf dX11_body_37 hP hD hS
      · replace hf := ineg c3 hf
        refine lv_bipush (v := -3) hx hb dX11_body_24 (by decide) ?_
        refine lv_goto (tgt := 37) hx hb dX11_body_26 (by decide) ?_
        exact retI hQ hf dX11_body_37 hP hD hS
    · replace hf := ineg c2 hf
      refine lv_iconst (v := -1) hx hb dX11_body_10 (by decide) ?_
      exact retI hQ hf dX11_body_11 hP hD hS
theorem dX11_act_0 : decode cX11_act 0 = .ok (.aload_n 0, 1) := by decide +kernel
theorem dX11_act_1 : decode cX11_act 1 = .ok (.getfield 75, 3) := by decide +kernel
theorem dX11_act_4 : decode cX11_act 4 = .ok (.iconst 0, 1) := by decide +kernel
theorem dX11_act_5 : decode cX11_act 5 = .ok (.putfield 345, 3) := by decide +kernel
theorem dX11_act_8 : decode cX11_act 8 = .ok (.aload_n 0, 1) := by decide +kernel
theorem dX11_act_9 : decode cX11_act 9 = .ok (.getfield 75, 3) := by decide +kernel
theorem dX11_act_12 : decode cX11_act 12 = .ok (.iload_n 1, 1) := by decide +kernel
theorem dX11_act_13 : decode cX11_act 13 = .ok (.invokevirtual 348, 3) := by decide +kernel
theorem dX11_act_16 : decode cX11_act 16 = .ok (.ifCond .eq 12, 3) := by decide +kernel
theorem dX11_act_19 : decode cX11_act 19 = .ok (.iload_n 2, 1) := by decide +kernel
theorem dX11_act_20 : decode cX11_act 20 = .ok (.ifCond .lt 8, 3) := by decide +kernel
theorem dX11_act_23 : decode cX11_act 23 = .ok (.iload_n 2, 1) := by decide +kernel
theorem dX11_act_24 : decode cX11_act 24 = .ok (.iconst 4, 1) := by decide +kernel
theorem dX11_act_25 : decode cX11_act 25 = .ok (.if_icmp .lt 5, 3) := by decide +kernel
theorem dX11_act_28 : decode cX11_act 28 = .ok (.iconst 0, 1) := by decide +kernel
theorem dX11_act_29 : decode cX11_act 29 = .ok (.ireturn, 1) := by decide +kernel
theorem dX11_act_30 : decode cX11_act 30 = .ok (.aload_n 0, 1) := by decide +kernel
theorem dX11_act_31 : decode cX11_act 31 = .ok (.getfield 75, 3) := by decide +kernel
theorem dX11_act_34 : decode cX11_act 34 = .ok (.iload_n 1, 1) := by decide +kernel
theorem dX11_act_35 : decode cX11_act 35 = .ok (.iload_n 2, 1) := by decide +kernel
theorem dX11_act_36 : decode cX11_act 36 = .ok (.aload_n 0, 1) := by decide +kernel
theorem dX11_act_37 : decode cX11_act 37 = .ok (.getfield 75, 3) := by decide +kernel
theorem dX11_act_40 : decode cX11_act 40 = .ok (.getfield 349, 3) := by decide +kernel
theorem dX11_act_43 : decode cX11_act 43 = .ok (.iload_n 1, 1) := by decide +kernel
theorem dX11_act_44 : decode cX11_act 44 = .ok (.iaload, 1) := by decide +kernel
theorem dX11_act_45 : decode cX11_act 45 = .ok (.iload_n 3, 1) := by decide +kernel
theorem dX11_act_46 : decode cX11_act 46 = .ok (.iconst 0, 1) := by decide +kernel
theorem dX11_act_47 : decode cX11_act 47 = .ok (.invokevirtual 350, 3) := by decide +kernel
theorem dX11_act_50 : decode cX11_act 50 = .ok (.ireturn, 1) := by decide +kernel
def f_X11_act (σ : St) (p1 : Int32) (p2 : Int32) (p3 : Int32) : Option (Int32 × St) := bnd2 (f_X10_has (sI σ 503 0 (0 : Int32)) p1) (fun r2 σ3 => if r2 = 0 then (some ((0 : Int32), σ3)) else (if p2 < 0 then (some ((0 : Int32), σ3)) else (if p2 < (4 : Int32) then (chk (p1 < 0 ∨ 50 ≤ p1.toNatClampNeg) (bnd2 (f_X10_perform σ3 p1 p2 (σ3.2.2.1 500 0 p1.toNatClampNeg) p3 (0 : Int32)) (fun r9 σ10 => some (r9, σ10)))) else (some ((0 : Int32), σ3)))))
set_option maxHeartbeats 4000000 in
set_option maxRecDepth 100000 in
theorem c_X11_act {l : Launch} {g : va_G} {ts : ClassId × ClassId × ClassId} {a : Nat → Nat} {σ : St} {p1 : Int32} {p2 : Int32} {p3 : Int32} {r : Int32} {σ' : St} (hf : f_X11_act σ p1 p2 p3 = some (r, σ')) : ConI l g ts (WC ts a) yX11_act cX11_act 4 (some .int) (rk 61 1647) σ [.ref (a 0), .int p1, .int p2, .int p3] r σ' := by
  refine ConI_mk .int rfl rfl rfl rfl (by decide) (Nat.le_of_ble_eq_true rfl) ?_
  intro p e s m below meth c A Q ls C hQ hP hD hS hl
  have C : FX p s m _ meth c RX11 cX11_act 4 g ts A := C
  have hx := C.1
  have hb := C.2.1
  have hown := C.2.2.2.1
  have hts := C.2.2.2.2.1
  have hl : lv_has ls 4 [(0, .ref (a 0)), (1, .int p1), (2, .int p2), (3, .int p3)] := hl
  rw [f_X11_act] at hf
  refine lv_aload_n hx hb dX11_act_0 rfl (lv_at hl 0 rfl) ?_
  refine G_X11_spellings C hP q_389 dX11_act_1 ?_
  refine lv_iconst (v := 0) hx hb dX11_act_4 (by decide) ?_
  refine S_X10_ran C hP hD hS q_344 dX11_act_5 (fun H locs hP hD hS => ?_)
  refine lv_aload_n hx hb dX11_act_8 rfl (lv_at hl 0 rfl) ?_
  refine G_X11_spellings C hP q_389 dX11_act_9 ?_
  refine lv_iload_n hx hb dX11_act_12 rfl (lv_at hl 1 rfl) ?_
  obtain ⟨r2, σ3, h1, hf⟩ := bnd2_some hf
  refine vI [] C hP hD hS (c_X10_has h1) mv_X10_has q_991 rv_X10 dX11_act_13 ⟨Nat.le_of_ble_eq_true rfl, Nat.le_of_ble_eq_true rfl⟩ ⟨Nat.zero_le _, Nat.zero_le _⟩ rfl rfl (Nat.le_of_ble_eq_true rfl) hl.1 (fun H locs hP hD hS => ?_)
  refine lv_if_eq (tgt := 28) hx hb dX11_act_16 (by decide) (fun c4 => ?_) (fun c4 => ?_)
  · replace hf := ipos c4 hf
    refine lv_iconst (v := 0) hx hb dX11_act_28 (by decide) ?_
    exact retI hQ hf dX11_act_29 hP hD hS
  · replace hf := ineg c4 hf
    refine lv_iload_n hx hb dX11_act_19 rfl (lv_at hl 2 rfl) ?_
    refine lv_if_lt (tgt := 28) hx hb dX11_act_20 (by decide) (fun c5 => ?_) (fun c5 => ?_)
    · replace hf := ipos c5 hf
      refine lv_iconst (v := 0) hx hb dX11_act_28 (by decide) ?_
      exact retI hQ hf dX11_act_29 hP hD hS
    · replace hf := ineg c5 hf
      refine lv_iload_n hx hb dX11_act_23 rfl (lv_at hl 2 rfl) ?_
      refine lv_iconst (v := 4) hx hb dX11_act_24 (by decide) ?_
      refine lv_icmp_lt (tgt := 30) hx hb dX11_act_25 (by decide) (fun c6 => ?_) (fun c6 => ?_)
      · replace hf := ipos c6 hf
        refine lv_aload_n hx hb dX11_act_30 rfl (lv_at hl 0 rfl) ?_
        refine G_X11_spellings C hP q_389 dX11_act_31 ?_
        refine lv_iload_n hx hb dX11_act_34 rfl (lv_at hl 1 rfl) ?_
        refine lv_iload_n hx hb dX11_act_35 rfl (lv_at hl 2 rfl) ?_
        refine lv_aload_n hx hb dX11_act_36 rfl (lv_at hl 0 rfl) ?_
        refine G_X11_spellings C hP q_389 dX11_act_37 ?_
        refine G_X10_kinds C hP q_338 dX11_act_40 ?_
        refine lv_iload_n hx hb dX11_act_43 rfl (lv_at hl 1 rfl) ?_
        obtain ⟨h7, hf⟩ := chk_some hf
        refine AL_X10_kinds C hP h7 dX11_act_44 ?_
        refine lv_iload_n hx hb dX11_act_45 rfl (lv_at hl 3 rfl) ?_
        refine lv_iconst (v := 0) hx hb dX11_act_46 (by decide) ?_
        obtain ⟨r9, σ10, h8, hf⟩ := bnd2_some hf
        refine vI [] C hP hD hS (c_X10_perform h8) mv_X10_perform q_995 rv_X10 dX11_act_47 ⟨Nat.le_of_ble_eq_true rfl, Nat.le_of_ble_eq_true rfl⟩ ⟨Nat.zero_le _, Nat.zero_le _⟩ rfl rfl (Nat.le_of_ble_eq_true rfl) hl.1 (fun H locs hP hD hS => ?_)
        exact retI hQ hf dX11_act_50 hP hD hS
      · replace hf := ineg c6 hf
        refine lv_iconst (v := 0) hx hb dX11_act_28 (by decide) ?_
        exact retI hQ hf dX11_act_29 hP hD hS
theorem dX11_trace_0 : decode cX11_trace 0 = .ok (.iload_n 1, 1) := by decide +kernel
theorem dX11_trace_1 : decode cX11_trace 1 = .ok (.ifCond .lt 32, 3) := by decide +kernel
theorem dX11_trace_4 : decode cX11_trace 4 = .ok (.iload_n 1, 1) := by decide +kernel
theorem dX11_trace_5 : decode cX11_trace 5 = .ok (.aload_n 0, 1) := by decide +kernel
theorem dX11_trace_6 : decode cX11_trace 6 = .ok (.getfield 75, 3) := by decide +kernel
theorem dX11_trace_9 : decode cX11_trace 9 = .ok (.getfield 345, 3) := by decide +kernel
theorem dX11_trace_12 : decode cX11_trace 12 = .ok (.if_icmp .ge 21, 3) := by decide +kernel
theorem dX11_trace_15 : decode cX11_trace 15 = .ok (.iload_n 1, 1) := by decide +kernel
theorem dX11_trace_16 : decode cX11_trace 16 = .ok (.bipush 24, 2) := by decide +kernel
theorem dX11_trace_18 : decode cX11_trace 18 = .ok (.if_icmp .ge 15, 3) := by decide +kernel
theorem dX11_trace_21 : decode cX11_trace 21 = .ok (.aload_n 0, 1) := by decide +kernel
theorem dX11_trace_22 : decode cX11_trace 22 = .ok (.getfield 75, 3) := by decide +kernel
theorem dX11_trace_25 : decode cX11_trace 25 = .ok (.getfield 354, 3) := by decide +kernel
theorem dX11_trace_28 : decode cX11_trace 28 = .ok (.iload_n 1, 1) := by decide +kernel
theorem dX11_trace_29 : decode cX11_trace 29 = .ok (.iaload, 1) := by decide +kernel
theorem dX11_trace_30 : decode cX11_trace 30 = .ok (.goto 4, 3) := by decide +kernel
theorem dX11_trace_33 : decode cX11_trace 33 = .ok (.iconst (-1), 1) := by decide +kernel
theorem dX11_trace_34 : decode cX11_trace 34 = .ok (.ireturn, 1) := by decide +kernel
def f_X11_trace (σ : St) (p1 : Int32) : Option (Int32 × St) := if p1 < 0 then (some ((-1 : Int32), σ)) else (if σ.1 503 0 ≤ p1 then (some ((-1 : Int32), σ)) else (if (24 : Int32) ≤ p1 then (some ((-1 : Int32), σ)) else (chk (p1 < 0 ∨ 24 ≤ p1.toNatClampNeg) (some (σ.2.2.1 501 0 p1.toNatClampNeg, σ)))))
set_option maxHeartbeats 4000000 in
set_option maxRecDepth 100000 in
theorem c_X11_trace {l : Launch} {g : va_G} {ts : ClassId × ClassId × ClassId} {a : Nat → Nat} {σ : St} {p1 : Int32} {r : Int32} {σ' : St} (hf : f_X11_trace σ p1 = some (r, σ')) : ConI l g ts (WC ts a) yX11_trace cX11_trace 2 (some .int) (rk 0 0) σ [.ref (a 0), .int p1] r σ' := by
  refine ConI_mk .int rfl rfl rfl rfl (by decide) (Nat.le_of_ble_eq_true rfl) ?_
  intro p e s m below meth c A Q ls C hQ hP hD hS hl
  have C : FX p s m _ meth c RX11 cX11_trace 2 g ts A := C
  have hx := C.1
  have hb := C.2.1
  have hown := C.2.2.2.1
  have hts := C.2.2.2.2.1
  have hl : lv_has ls 2 [(0, .ref (a 0)), (1, .int p1)] := hl
  rw [f_X11_trace] at hf
  refine lv_iload_n hx hb dX11_trace_0 rfl (lv_at hl 1 rfl) ?_
  refine lv_if_lt (tgt := 33) hx hb dX11_trace_1 (by decide) (fun c1 => ?_) (fun c1 => ?_)
  · replace hf := ipos c1 hf
    refine lv_iconst (v := -1) hx hb dX11_trace_33 (by decide) ?_
    exact retI hQ hf dX11_trace_34 hP hD hS
  · replace hf := ineg c1 hf
    refine lv_iload_n hx hb dX11_trace_4 rfl (lv_at hl 1 rfl) ?_
    refine lv_aload_n hx hb dX11_trace_5 rfl (lv_at hl 0 rfl) ?_
    refine G_X11_spellings C hP q_389 dX11_trace_6 ?_
    refine G_X10_ran C hP q_344 dX11_trace_9 ?_
    refine lv_icmp_ge (tgt := 33) hx hb dX11_trace_12 (by decide) (fun c2 => ?_) (fun c2 => ?_)
    · replace hf := ipos c2 hf
      refine lv_iconst (v := -1) hx hb dX11_trace_33 (by decide) ?_
      exact retI hQ hf dX11_trace_34 hP hD hS
    · replace hf := ineg c2 hf
      refine lv_iload_n hx hb dX11_trace_15 rfl (lv_at hl 1 rfl) ?_
      refine lv_bipush (v := 24) hx hb dX11_trace_16 (by decide) ?_
      refine lv_icmp_ge (tgt := 33) hx hb dX11_trace_18 (by decide) (fun c3 => ?_) (fun c3 => ?_)
      · replace hf := ipos c3 hf
        refine lv_iconst (v := -1) hx hb dX11_trace_33 (by decide) ?_
        exact retI hQ hf dX11_trace_34 hP hD hS
      · replace hf := ineg c3 hf
        refine lv_aload_n hx hb dX11_trace_21 rfl (lv_at hl 0 rfl) ?_
        refine G_X11_spellings C hP q_389 dX11_trace_22 ?_
        refine G_X10_traced C hP q_340 dX11_trace_25 ?_
        refine lv_iload_n hx hb dX11_trace_28 rfl (lv_at hl 1 rfl) ?_
        obtain ⟨h4, hf⟩ := chk_some hf
        refine AL_X10_traced C hP h4 dX11_trace_29 ?_
        refine lv_goto (tgt := 34) hx hb dX11_trace_30 (by decide) ?_
        exact retI hQ hf dX11_trace_34 hP hD hS
theorem dX11_keep_0 : decode cX11_keep 0 = .ok (.iload_n 1, 1) := by decide +kernel
theorem dX11_keep_1 : decode cX11_keep 1 = .ok (.invokestatic 357, 3) := by decide +kernel
theorem dX11_keep_4 : decode cX11_keep 4 = .ok (.ifCond .eq 19, 3) := by decide +kernel
theorem dX11_keep_7 : decode cX11_keep 7 = .ok (.iload_n 2, 1) := by decide +kernel
theorem dX11_keep_8 : decode cX11_keep 8 = .ok (.iconst (-1), 1) := by decide +kernel
theorem dX11_keep_9 : decode cX11_keep 9 = .ok (.if_icmp .eq 16, 3) := by decide +kernel
theorem dX11_keep_12 : decode cX11_keep 12 = .ok (.aload_n 0, 1) := by decide +kernel
theorem dX11_keep_13 : decode cX11_keep 13 = .ok (.getfield 75, 3) := by decide +kernel
theorem dX11_keep_16 : decode cX11_keep 16 = .ok (.iload_n 2, 1) := by decide +kernel
theorem dX11_keep_17 : decode cX11_keep 17 = .ok (.invokevirtual 348, 3) := by decide +kernel
theorem dX11_keep_20 : decode cX11_keep 20 = .ok (.ifCond .ne 5, 3) := by decide +kernel
theorem dX11_keep_23 : decode cX11_keep 23 = .ok (.iconst (-1), 1) := by decide +kernel
theorem dX11_keep_24 : decode cX11_keep 24 = .ok (.ireturn, 1) := by decide +kernel
theorem dX11_keep_25 : decode cX11_keep 25 = .ok (.aload_n 0, 1) := by decide +kernel
theorem dX11_keep_26 : decode cX11_keep 26 = .ok (.getfield 81, 3) := by decide +kernel
theorem dX11_keep_29 : decode cX11_keep 29 = .ok (.iload_n 1, 1) := by decide +kernel
theorem dX11_keep_30 : decode cX11_keep 30 = .ok (.aaload, 1) := by decide +kernel
theorem dX11_keep_31 : decode cX11_keep 31 = .ok (.iload_n 2, 1) := by decide +kernel
theorem dX11_keep_32 : decode cX11_keep 32 = .ok (.invokevirtual 360, 3) := by decide +kernel
theorem dX11_keep_35 : decode cX11_keep 35 = .ok (.iconst 1, 1) := by decide +kernel
theorem dX11_keep_36 : decode cX11_keep 36 = .ok (.ireturn, 1) := by decide +kernel
def f_X11_keep_b25 (σ : St) (x1 : Int32) (x2 : Int32) : Option (Int32 × St) := chk (x1 < 0 ∨ 6 ≤ x1.toNatClampNeg) (bnd1 (f_X8_hold σ ((x1.toNatClampNeg)) x2) (fun σ11 => some ((1 : Int32), σ11)))
def f_X11_keep (σ : St) (p1 : Int32) (p2 : Int32) : Option (Int32 × St) := bnd1 (f_X11_shelfThere p1) (fun r2 => if r2 = 0 then (some ((-1 : Int32), σ)) else (if p2 = (-1 : Int32) then (f_X11_keep_b25 σ p1 p2) else (bnd2 (f_X10_has σ p2) (fun r6 σ7 => if r6 = 0 then (some ((-1 : Int32), σ7)) else (f_X11_keep_b25 σ7 p1 p2)))))
set_option maxHeartbeats 4000000 in
set_option maxRecDepth 100000 in
theorem w_X11_keep_b25 {p : Program} {l : Launch} {e : Env} {s : State} {m : MethodId} {args : Array Value} {below : List Frame} {meth : Method} {c : Code} {g : va_G} {ts : ClassId × ClassId × ClassId} {A : Nat → Prop} {Q : State → Prop} {a : Nat → Nat} {r : Int32} {σ' : St} (C : FX p s m args meth c RX11 cX11_keep 3 g ts A) (hQ : RetI p l e (rk 1 21) s m args below meth c cX11_keep g (WC ts a) A r σ' Q) : ∀ (σ : St) (x1 : Int32) (x2 : Int32) (H : Heap) (locs : List Loc) (ls : Array Slot), f_X11_keep_b25 σ x1 x2 = some (r, σ') → va_P g classes (WC ts a σ) H → va_D A (WC ts a σ) → va_S A s.heap H locs → lv_has ls 3 [(0, .ref (a 0)), (1, .int x1), (2, .int x2)] → W p l e (rk 1 21) s m args below meth c H locs 0 0 Q (F0 m 25 ls []) := by
  have hx := C.1
  have hb := C.2.1
  have hown := C.2.2.2.1
  have hts := C.2.2.2.2.1
  intro σ x1 x2 H locs ls hf hP hD hS hl
  rw [f_X11_keep_b25] at hf
  refine lv_aload_n hx hb dX11_keep_25 rfl (lv_at hl 0 rfl) ?_
  refine G_X11_shelves C hP q_390 dX11_keep_26 ?_
  refine lv_iload_n hx hb dX11_keep_29 rfl (lv_at hl 1 rfl) ?_
  obtain ⟨h9, hf⟩ := chk_some hf
  refine AL_shelves C hP h9 dX11_keep_30 ?_
  refine lv_iload_n hx hb dX11_keep_31 rfl (lv_at hl 2 rfl) ?_
  obtain ⟨σ11, h10, hf⟩ := bnd1_some hf
  refine vV [] C hP hD hS (c_X8_hold (Nat.not_le.mp fun q => h9 (Or.inr q)) h10) mv_X8_hold q_1016 (rv_X8 (Nat.not_le.mp fun q => h9 (Or.inr q))) dX11_keep_32 ⟨Nat.le_of_ble_eq_true rfl, Nat.le_of_ble_eq_true rfl⟩ ⟨Nat.zero_le _, Nat.zero_le _⟩ rfl rfl (Nat.le_of_ble_eq_true rfl) hl.1 (fun H locs hP hD hS => ?_)
  refine lv_iconst (v := 1) hx hb dX11_keep_35 (by decide) ?_
  exact retI hQ hf dX11_keep_36 hP hD hS
set_option maxHeartbeats 4000000 in
set_option maxRecDepth 100000 in
theorem c_X11_keep {l : Launch} {g : va_G} {ts : ClassId × ClassId × ClassId} {a : Nat → Nat} {σ : St} {p1 : Int32} {p2 : Int32} {r : Int32} {σ' : St} (hf : f_X11_keep σ p1 p2 = some (r, σ')) : ConI l g ts (WC ts a) yX11_keep cX11_keep 3 (some .int) (rk 1 21) σ [.ref (a 0), .int p1, .int p2] r σ' := by
  refine ConI_mk .int rfl rfl rfl rfl (by decide) (Nat.le_of_ble_eq_true rfl) ?_
  intro p e s m below meth c A Q ls C hQ hP hD hS hl
  have C : FX p s m _ meth c RX11 cX11_keep 3 g ts A := C
  have hx := C.1
  have hb := C.2.1
  have hown := C.2.2.2.1
  have hts := C.2.2.2.2.1
  have hl : lv_has ls 3 [(0, .ref (a 0)), (1, .int p1), (2, .int p2)] := hl
  rw [f_X11_keep] at hf
  refine lv_iload_n hx hb dX11_keep_0 rfl (lv_at hl 1 rfl) ?_
  obtain ⟨r2, h1, hf⟩ := bnd1_some hf
  refine tI [] C hP hD hS (c_X11_shelfThere h1) ms_X11_shelfThere q_425 dX11_keep_1 ⟨Nat.le_of_ble_eq_true rfl, Nat.le_of_ble_eq_true rfl⟩ ⟨Nat.zero_le _, Nat.zero_le _⟩ rfl rfl (Nat.le_of_ble_eq_true rfl) hl.1 (fun H locs hP hD hS => ?_)
  refine lv_if_eq (tgt := 23) hx hb dX11_keep_4 (by decide) (fun c3 => ?_) (fun c3 => ?_)
  · replace hf := ipos c3 hf
    refine lv_iconst (v := -1) hx hb dX11_keep_23 (by decide) ?_
    exact retI hQ hf dX11_keep_24 hP hD hS
  · replace hf := ineg c3 hf
    refine lv_iload_n hx hb dX11_keep_7 rfl (lv_at hl 2 rfl) ?_
    refine lv_iconst (v := -1) hx hb dX11_keep_8 (by decide) ?_
    refine lv_icmp_eq (tgt := 25) hx hb dX11_keep_9 (by decide) (fun c4 => ?_) (fun c4 => ?_)
    · replace hf := ipos c4 hf
      exact w_X11_keep_b25 C hQ _ _ _ _ _ _ hf hP hD hS (lv_sub hl [0, 1, 2] rfl)
    · replace hf := ineg c4 hf
      refine lv_aload_n hx hb dX11_keep_12 rfl (lv_at hl 0 rfl) ?_
      refine G_X11_spellings C hP q_389 dX11_keep_13 ?_
      refine lv_iload_n hx hb dX11_keep_16 rfl (lv_at hl 2 rfl) ?_
      obtain ⟨r6, σ7, h5, hf⟩ := bnd2_some hf
      refine vI [] C hP hD hS (c_X10_has h5) mv_X10_has q_991 rv_X10 dX11_keep_17 ⟨Nat.le_of_ble_eq_true rfl, Nat.le_of_ble_eq_true rfl⟩ ⟨Nat.zero_le _, Nat.zero_le _⟩ rfl rfl (Nat.le_of_ble_eq_true rfl) hl.1 (fun H locs hP hD hS => ?_)
      refine lv_if_ne (tgt := 25) hx hb dX11_keep_20 (by decide) (fun c8 => ?_) (fun c8 => ?_)
      · replace hf := ineg c8 hf
        exact w_X11_keep_b25 C hQ _ _ _ _ _ _ hf hP hD hS (lv_sub hl [0, 1, 2] rfl)
      · replace hf := ipos c8 hf
        refine lv_iconst (v := -1) hx hb dX11_keep_23 (by decide) ?_
        exact retI hQ hf dX11_keep_24 hP hD hS
theorem dX11_row_0 : decode cX11_row 0 = .ok (.iload_n 1, 1) := by decide +kernel
theorem dX11_row_1 : decode cX11_row 1 = .ok (.invokestatic 357, 3) := by decide +kernel
theorem dX11_row_4 : decode cX11_row 4 = .ok (.ifCond .eq 18, 3) := by decide +kernel
theorem dX11_row_7 : decode cX11_row 7 = .ok (.iload_n 2, 1) := by decide +kernel
theorem dX11_row_8 : decode cX11_row 8 = .ok (.ifCond .lt 14, 3) := by decide +kernel
theorem dX11_row_11 : decode cX11_row 11 = .ok (.iload_n 2, 1) := by decide +kernel
theorem dX11_row_12 : decode cX11_row 12 = .ok (.iconst 5, 1) := by decide +kernel
theorem dX11_row_13 : decode cX11_row 13 = .ok (.if_icmp .ge 9, 3) := by decide +kernel
theorem dX11_row_16 : decode cX11_row 16 = .ok (.iload_n 3, 1) := by decide +kernel
theorem dX11_row_17 : decode cX11_row 17 = .ok (.bipush 60, 2) := by decide +kernel
theorem dX11_row_19 : decode cX11_row 19 = .ok (.if_icmp .le 5, 3) := by decide +kernel
theorem dX11_row_22 : decode cX11_row 22 = .ok (.iconst (-1), 1) := by decide +kernel
theorem dX11_row_23 : decode cX11_row 23 = .ok (.ireturn, 1) := by decide +kernel
theorem dX11_row_24 : decode cX11_row 24 = .ok (.iload_n 3, 1) := by decide +kernel
theorem dX11_row_25 : decode cX11_row 25 = .ok (.ifCond .ge 6, 3) := by decide +kernel
theorem dX11_row_28 : decode cX11_row 28 = .ok (.bipush (-14), 2) := by decide +kernel
theorem dX11_row_30 : decode cX11_row 30 = .ok (.ireturn, 1) := by decide +kernel
theorem dX11_row_31 : decode cX11_row 31 = .ok (.aload_n 0, 1) := by decide +kernel
theorem dX11_row_32 : decode cX11_row 32 = .ok (.getfield 81, 3) := by decide +kernel
theorem dX11_row_35 : decode cX11_row 35 = .ok (.iload_n 1, 1) := by decide +kernel
theorem dX11_row_36 : decode cX11_row 36 = .ok (.aaload, 1) := by decide +kernel
theorem dX11_row_37 : decode cX11_row 37 = .ok (.iload_n 2, 1) := by decide +kernel
theorem dX11_row_38 : decode cX11_row 38 = .ok (.iload_n 3, 1) := by decide +kernel
theorem dX11_row_39 : decode cX11_row 39 = .ok (.invokevirtual 363, 3) := by decide +kernel
theorem dX11_row_42 : decode cX11_row 42 = .ok (.iconst 1, 1) := by decide +kernel
theorem dX11_row_43 : decode cX11_row 43 = .ok (.ireturn, 1) := by decide +kernel
def f_X11_row (σ : St) (p1 : Int32) (p2 : Int32) (p3 : Int32) : Option (Int32 × St) := bnd1 (f_X11_shelfThere p1) (fun r2 => if r2 = 0 then (some ((-1 : Int32), σ)) else (if p2 < 0 then (some ((-1 : Int32), σ)) else (if (5 : Int32) ≤ p2 then (some ((-1 : Int32), σ)) else (if p3 ≤ (60 : Int32) then (if 0 ≤ p3 then (chk (p1 < 0 ∨ 6 ≤ p1.toNatClampNeg) (bnd1 (f_X8_holdRow σ ((p1.toNatClampNeg)) p2 p3) (fun σ10 => some ((1 : Int32), σ10)))) else (some ((-14 : Int32), σ))) else (some ((-1 : Int32), σ))))))
set_option maxHeartbeats 4000000 in
set_option maxRecDepth 100000 in
theorem c_X11_row {l : Launch} {g : va_G} {ts : ClassId × ClassId × ClassId} {a : Nat → Nat} {σ : St} {p1 : Int32} {p2 : Int32} {p3 : Int32} {r : Int32} {σ' : St} (hf : f_X11_row σ p1 p2 p3 = some (r, σ')) : ConI l g ts (WC ts a) yX11_row cX11_row 4 (some .int) (rk 2 46) σ [.ref (a 0), .int p1, .int p2, .int p3] r σ' := by
  refine ConI_mk .int rfl rfl rfl rfl (by decide) (Nat.le_of_ble_eq_true rfl) ?_
  intro p e s m below meth c A Q ls C hQ hP hD hS hl
  have C : FX p s m _ meth c RX11 cX11_row 4 g ts A := C
  have hx := C.1
  have hb := C.2.1
  have hown := C.2.2.2.1
  have hts := C.2.2.2.2.1
  have hl : lv_has ls 4 [(0, .ref (a 0)), (1, .int p1), (2, .int p2), (3, .int p3)] := hl
  rw [f_X11_row] at hf
  refine lv_iload_n hx hb dX11_row_0 rfl (lv_at hl 1 rfl) ?_
  obtain ⟨r2, h1, hf⟩ := bnd1_some hf
  refine tI [] C hP hD hS (c_X11_shelfThere h1) ms_X11_shelfThere q_425 dX11_row_1 ⟨Nat.le_of_ble_eq_true rfl, Nat.le_of_ble_eq_true rfl⟩ ⟨Nat.zero_le _, Nat.zero_le _⟩ rfl rfl (Nat.le_of_ble_eq_true rfl) hl.1 (fun H locs hP hD hS => ?_)
  refine lv_if_eq (tgt := 22) hx hb dX11_row_4 (by decide) (fun c3 => ?_) (fun c3 => ?_)
  · replace hf := ipos c3 hf
    refine lv_iconst (v := -1) hx hb dX11_row_22 (by decide) ?_
    exact retI hQ hf dX11_row_23 hP hD hS
  · replace hf := ineg c3 hf
    refine lv_iload_n hx hb dX11_row_7 rfl (lv_at hl 2 rfl) ?_
    refine lv_if_lt (tgt := 22) hx hb dX11_row_8 (by decide) (fun c4 => ?_) (fun c4 => ?_)
    · replace hf := ipos c4 hf
      refine lv_iconst (v := -1) hx hb dX11_row_22 (by decide) ?_
      exact retI hQ hf dX11_row_23 hP hD hS
    · replace hf := ineg c4 hf
      refine lv_iload_n hx hb dX11_row_11 rfl (lv_at hl 2 rfl) ?_
      refine lv_iconst (v := 5) hx hb dX11_row_12 (by decide) ?_
      refine lv_icmp_ge (tgt := 22) hx hb dX11_row_13 (by decide) (fun c5 => ?_) (fun c5 => ?_)
      · replace hf := ipos c5 hf
        refine lv_iconst (v := -1) hx hb dX11_row_22 (by decide) ?_
        exact retI hQ hf dX11_row_23 hP hD hS
      · replace hf := ineg c5 hf
        refine lv_iload_n hx hb dX11_row_16 rfl (lv_at hl 3 rfl) ?_
        refine lv_bipush (v := 60) hx hb dX11_row_17 (by decide) ?_
        refine lv_icmp_le (tgt := 24) hx hb dX11_row_19 (by decide) (fun c6 => ?_) (fun c6 => ?_)
        · replace hf := ipos c6 hf
          refine lv_iload_n hx hb dX11_row_24 rfl (lv_at hl 3 rfl) ?_
          refine lv_if_ge (tgt := 31) hx hb dX11_row_25 (by decide) (fun c7 => ?_) (fun c7 => ?_)
          · replace hf := ipos c7 hf
            refine lv_aload_n hx hb dX11_row_31 rfl (lv_at hl 0 rfl) ?_
            refine G_X11_shelves C hP q_390 dX11_row_32 ?_
            refine lv_iload_n hx hb dX11_row_35 rfl (lv_at hl 1 rfl) ?_
            obtain ⟨h8, hf⟩ := chk_some hf
            refine AL_shelves C hP h8 dX11_row_36 ?_
            refine lv_iload_n hx hb dX11_row_37 rfl (lv_at hl 2 rfl) ?_
            refine lv_iload_n hx hb dX11_row_38 rfl (lv_at hl 3 rfl) ?_
            obtain ⟨σ10, h9, hf⟩ := bnd1_some hf
            refine vV [] C hP hD hS (c_X8_holdRow (Nat.not_le.mp fun q => h8 (Or.inr q)) h9) mv_X8_holdRow q_1024 (rv_X8 (Nat.not_le.mp fun q => h8 (Or.inr q))) dX11_row_39 ⟨Nat.le_of_ble_eq_true rfl, Nat.le_of_ble_eq_true rfl⟩ ⟨Nat.zero_le _, Nat.zero_le _⟩ rfl rfl (Nat.le_of_ble_eq_true rfl) hl.1 (fun H locs hP hD hS => ?_)
            refine lv_iconst (v := 1) hx hb dX11_row_42 (by decide) ?_
            exact retI hQ hf dX11_row_43 hP hD hS
          · replace hf := ineg c7 hf
            refine lv_bipush (v := -14) hx hb dX11_row_28 (by decide) ?_
            exact retI hQ hf dX11_row_30 hP hD hS
        · replace hf := ineg c6 hf
          refine lv_iconst (v := -1) hx hb dX11_row_22 (by decide) ?_
          exact retI hQ hf dX11_row_23 hP hD hS
theorem dX11_refusedElement_0 : decode cX11_refusedElement 0 = .ok (.iload_n 1, 1) := by decide +kernel
theorem dX11_refusedElement_1 : decode cX11_refusedElement 1 = .ok (.invokestatic 357, 3) := by decide +kernel
theorem dX11_refusedElement_4 : decode cX11_refusedElement 4 = .ok (.ifCond .ne 5, 3) := by decide +kernel
theorem dX11_refusedElement_7 : decode cX11_refusedElement 7 = .ok (.iconst (-1), 1) := by decide +kernel
theorem dX11_refusedElement_8 : decode cX11_refusedElement 8 = .ok (.ireturn, 1) := by decide +kernel
theorem dX11_refusedElement_9 : decode cX11_refusedElement 9 = .ok (.aload_n 0, 1) := by decide +kernel
theorem dX11_refusedElement_10 : decode cX11_refusedElement 10 = .ok (.getfield 81, 3) := by decide +kernel
theorem dX11_refusedElement_13 : decode cX11_refusedElement 13 = .ok (.iload_n 1, 1) := by decide +kernel
theorem dX11_refusedElement_14 : decode cX11_refusedElement 14 = .ok (.aaload, 1) := by decide +kernel
theorem dX11_refusedElement_15 : decode cX11_refusedElement 15 = .ok (.invokevirtual 375, 3) := by decide +kernel
theorem dX11_refusedElement_18 : decode cX11_refusedElement 18 = .ok (.ifCond .eq 6, 3) := by decide +kernel
theorem dX11_refusedElement_21 : decode cX11_refusedElement 21 = .ok (.bipush (-11), 2) := by decide +kernel
theorem dX11_refusedElement_23 : decode cX11_refusedElement 23 = .ok (.ireturn, 1) := by decide +kernel
theorem dX11_refusedElement_24 : decode cX11_refusedElement 24 = .ok (.aload_n 0, 1) := by decide +kernel
theorem dX11_refusedElement_25 : decode cX11_refusedElement 25 = .ok (.getfield 81, 3) := by decide +kernel
theorem dX11_refusedElement_28 : decode cX11_refusedElement 28 = .ok (.iload_n 1, 1) := by decide +kernel
theorem dX11_refusedElement_29 : decode cX11_refusedElement 29 = .ok (.aaload, 1) := by decide +kernel
theorem dX11_refusedElement_30 : decode cX11_refusedElement 30 = .ok (.invokevirtual 379, 3) := by decide +kernel
theorem dX11_refusedElement_33 : decode cX11_refusedElement 33 = .ok (.ifCond .ne 6, 3) := by decide +kernel
theorem dX11_refusedElement_36 : decode cX11_refusedElement 36 = .ok (.bipush (-12), 2) := by decide +kernel
theorem dX11_refusedElement_38 : decode cX11_refusedElement 38 = .ok (.ireturn, 1) := by decide +kernel
theorem dX11_refusedElement_39 : decode cX11_refusedElement 39 = .ok (.aload_n 0, 1) := by decide +kernel
theorem dX11_refusedElement_40 : decode cX11_refusedElement 40 = .ok (.getfield 81, 3) := by decide +kernel
theorem dX11_refusedElement_43 : decode cX11_refusedElement 43 = .ok (.iload_n 1, 1) := by decide +kernel
theorem dX11_refusedElement_44 : decode cX11_refusedElement 44 = .ok (.aaload, 1) := by decide +kernel
theorem dX11_refusedElement_45 : decode cX11_refusedElement 45 = .ok (.iload_n 2, 1) := by decide +kernel
theorem dX11_refusedElement_46 : decode cX11_refusedElement 46 = .ok (.iconst 1, 1) := by decide +kernel
theorem dX11_refusedElement_47 : decode cX11_refusedElement 47 = .ok (.invokevirtual 385, 3) := by decide +kernel
theorem dX11_refusedElement_50 : decode cX11_refusedElement 50 = .ok (.ifCond .eq 7, 3) := by decide +kernel
theorem dX11_refusedElement_53 : decode cX11_refusedElement 53 = .ok (.iconst 0, 1) := by decide +kernel
theorem dX11_refusedElement_54 : decode cX11_refusedElement 54 = .ok (.goto 5, 3) := by decide +kernel
theorem dX11_refusedElement_57 : decode cX11_refusedElement 57 = .ok (.bipush (-13), 2) := by decide +kernel
theorem dX11_refusedElement_59 : decode cX11_refusedElement 59 = .ok (.ireturn, 1) := by decide +kernel
def f_X11_refusedElement (σ : St) (p1 : Int32) (p2 : Int32) : Option (Int32 × St) := bnd1 (f_X11_shelfThere p1) (fun r2 => if r2 = 0 then (some ((-1 : Int32), σ)) else (chk (p1 < 0 ∨ 6 ≤ p1.toNatClampNeg) (bnd2 (f_X8_isEmpty σ ((p1.toNatClampNeg))) (fun r6 σ7 => if r6 = 0 then (chk (p1 < 0 ∨ 6 ≤ p1.toNatClampNeg) (bnd2 (f_X8_isRow σ7 ((p1.toNatClampNeg))) (fun r11 σ12 => if r11 = 0 then (some ((-12 : Int32), σ12)) else (chk (p1 < 0 ∨ 6 ≤ p1.toNatClampNeg) (bnd2 (f_X8_hasRun σ12 ((p1.toNatClampNeg)) p2 (1 : Int32)) (fun r16 σ17 => if r16 = 0 then (some ((-13 : Int32), σ17)) else (some ((0 : Int32), σ17)))))))) else (some ((-11 : Int32), σ7))))))
set_option maxHeartbeats 4000000 in
set_option maxRecDepth 100000 in
theorem c_X11_refusedElement {l : Launch} {g : va_G} {ts : ClassId × ClassId × ClassId} {a : Nat → Nat} {σ : St} {p1 : Int32} {p2 : Int32} {r : Int32} {σ' : St} (hf : f_X11_refusedElement σ p1 p2 = some (r, σ')) : ConI l g ts (WC ts a) yX11_refusedElement cX11_refusedElement 3 (some .int) (rk 1 22) σ [.ref (a 0), .int p1, .int p2] r σ' := by
  refine ConI_mk .int rfl rfl rfl rfl (by decide) (Nat.le_of_ble_eq_true rfl) ?_
  intro p e s m below meth c A Q ls C hQ hP hD hS hl
  have C : FX p s m _ meth c RX11 cX11_refusedElement 3 g ts A := C
  have hx := C.1
  have hb := C.2.1
  have hown := C.2.2.2.1
  have hts := C.2.2.2.2.1
  have hl : lv_has ls 3 [(0, .ref (a 0)), (1, .int p1), (2, .int p2)] := hl
  rw [f_X11_refusedElement] at hf
  refine lv_iload_n hx hb dX11_refusedElement_0 rfl (lv_at hl 1 rfl) ?_
  obtain ⟨r2, h1, hf⟩ := bnd1_some hf
  refine tI [] C hP hD hS (c_X11_shelfThere h1) ms_X11_shelfThere q_425 dX11_refusedElement_1 ⟨Nat.le_of_ble_eq_true rfl, Nat.le_of_ble_eq_true rfl⟩ ⟨Nat.zero_le _, Nat.zero_le _⟩ rfl rfl (Nat.le_of_ble_eq_true rfl) hl.1 (fun H locs hP hD hS => ?_)
  refine lv_if_ne (tgt := 9) hx hb dX11_refusedElement_4 (by decide) (fun c3 => ?_) (fun c3 => ?_)
  · replace hf := ineg c3 hf
    refine lv_aload_n hx hb dX11_refusedElement_9 rfl (lv_at hl 0 rfl) ?_
    refine G_X11_shelves C hP q_390 dX11_refusedElement_10 ?_
    refine lv_iload_n hx hb dX11_refusedElement_13 rfl (lv_at hl 1 rfl) ?_
    obtain ⟨h4, hf⟩ := chk_some hf
    refine AL_shelves C hP h4 dX11_refusedElement_14 ?_
    obtain ⟨r6, σ7, h5, hf⟩ := bnd2_some hf
    refine vI [] C hP hD hS (c_X8_isEmpty (Nat.not_le.mp fun q => h4 (Or.inr q)) h5) mv_X8_isEmpty q_428 (rv_X8 (Nat.not_le.mp fun q => h4 (Or.inr q))) dX11_refusedElement_15 ⟨Nat.le_of_ble_eq_true rfl, Nat.le_of_ble_eq_true rfl⟩ ⟨Nat.zero_le _, Nat.zero_le _⟩ rfl rfl (Nat.le_of_ble_eq_true rfl) hl.1 (fun H locs hP hD hS => ?_)
    refine lv_if_eq (tgt := 24) hx hb dX11_refusedElement_18 (by decide) (fun c8 => ?_) (fun c8 => ?_)
    · replace hf := ipos c8 hf
      refine lv_aload_n hx hb dX11_refusedElement_24 rfl (lv_at hl 0 rfl) ?_
      refine G_X11_shelves C hP q_390 dX11_refusedElement_25 ?_
      refine lv_iload_n hx hb dX11_refusedElement_28 rfl (lv_at hl 1 rfl) ?_
      obtain ⟨h9, hf⟩ := chk_some hf
      refine AL_shelves C hP h9 dX11_refusedElement_29 ?_
      obtain ⟨r11, σ12, h10, hf⟩ := bnd2_some hf
      refine vI [] C hP hD hS (c_X8_isRow (Nat.not_le.mp fun q => h9 (Or.inr q)) h10) mv_X8_isRow q_432 (rv_X8 (Nat.not_le.mp fun q => h9 (Or.inr q))) dX11_refusedElement_30 ⟨Nat.le_of_ble_eq_true rfl, Nat.le_of_ble_eq_true rfl⟩ ⟨Nat.zero_le _, Nat.zero_le _⟩ rfl rfl (Nat.le_of_ble_eq_true rfl) hl.1 (fun H locs hP hD hS => ?_)
      refine lv_if_ne (tgt := 39) hx hb dX11_refusedElement_33 (by decide) (fun c13 => ?_) (fun c13 => ?_)
      · replace hf := ineg c13 hf
        refine lv_aload_n hx hb dX11_refusedElement_39 rfl (lv_at hl 0 rfl) ?_
        refine G_X11_shelves C hP q_390 dX11_refusedElement_40 ?_
        refine lv_iload_n hx hb dX11_refusedElement_43 rfl (lv_at hl 1 rfl) ?_
        obtain ⟨h14, hf⟩ := chk_some hf
        refine AL_shelves C hP h14 dX11_refusedElement_44 ?_
        refine lv_iload_n hx hb dX11_refusedElement_45 rfl (lv_at hl 2 rfl) ?_
        refine lv_iconst (v := 1) hx hb dX11_refusedElement_46 (by decide) ?_
        obtain ⟨r16, σ17, h15, hf⟩ := bnd2_some hf
        refine vI [] C hP hD hS (c_X8_hasRun (Nat.not_le.mp fun q => h14 (Or.inr q)) h15) mv_X8_hasRun q_1037 (rv_X8 (Nat.not_le.mp fun q => h14 (Or.inr q))) dX11_refusedElement_47 ⟨Nat.le_of_ble_eq_true rfl, Nat.le_of_ble_eq_true rfl⟩ ⟨Nat.zero_le _, Nat.zero_le _⟩ rfl rfl (Nat.le_of_ble_eq_true rfl) hl.1 (fun H locs hP hD hS => ?_)
        refine lv_if_eq (tgt := 57) hx hb dX11_refusedElement_50 (by decide) (fun c18 => ?_) (fun c18 => ?_)
        · replace hf := ipos c18 hf
          refine lv_bipush (v := -13) hx hb dX11_refusedElement_57 (by decide) ?_
          exact retI hQ hf dX11_refusedElement_59 hP hD hS
        · replace hf := ineg c18 hf
          refine lv_iconst (v := 0) hx hb dX11_refusedElement_53 (by decide) ?_
          refine lv_goto (tgt := 59) hx hb dX11_refusedElement_54 (by decide) ?_
          exact retI hQ hf dX11_refusedElement_59 hP hD hS
      · replace hf := ipos c13 hf
        refine lv_bipush (v := -12) hx hb dX11_refusedElement_36 (by decide) ?_
        exact retI hQ hf dX11_refusedElement_38 hP hD hS
    · replace hf := ineg c8 hf
      refine lv_bipush (v := -11) hx hb dX11_refusedElement_21 (by decide) ?_
      exact retI hQ hf dX11_refusedElement_23 hP hD hS
  · replace hf := ipos c3 hf
    refine lv_iconst (v := -1) hx hb dX11_refusedElement_7 (by decide) ?_
    exact retI hQ hf dX11_refusedElement_8 hP hD hS
theorem dX11_put_0 : decode cX11_put 0 = .ok (.aload_n 0, 1) := by decide +kernel
theorem dX11_put_1 : decode cX11_put 1 = .ok (.iload_n 1, 1) := by decide +kernel
theorem dX11_put_2 : decode cX11_put 2 = .ok (.iload_n 2, 1) := by decide +kernel
theorem dX11_put_3 : decode cX11_put 3 = .ok (.invokevirtual 366, 3) := by decide +kernel
theorem dX11_put_6 : decode cX11_put 6 = .ok (.istore 5, 2) := by decide +kernel
theorem dX11_put_8 : decode cX11_put 8 = .ok (.iload 5, 2) := by decide +kernel
theorem dX11_put_10 : decode cX11_put 10 = .ok (.ifCond .eq 6, 3) := by decide +kernel
theorem dX11_put_13 : decode cX11_put 13 = .ok (.iload 5, 2) := by decide +kernel
theorem dX11_put_15 : decode cX11_put 15 = .ok (.ireturn, 1) := by decide +kernel
theorem dX11_put_16 : decode cX11_put 16 = .ok (.aload_n 0, 1) := by decide +kernel
theorem dX11_put_17 : decode cX11_put 17 = .ok (.getfield 81, 3) := by decide +kernel
theorem dX11_put_20 : decode cX11_put 20 = .ok (.iload_n 1, 1) := by decide +kernel
theorem dX11_put_21 : decode cX11_put 21 = .ok (.aaload, 1) := by decide +kernel
theorem dX11_put_22 : decode cX11_put 22 = .ok (.iload_n 2, 1) := by decide +kernel
theorem dX11_put_23 : decode cX11_put 23 = .ok (.lload_n 3, 1) := by decide +kernel
theorem dX11_put_24 : decode cX11_put 24 = .ok (.invokevirtual 369, 3) := by decide +kernel
theorem dX11_put_27 : decode cX11_put 27 = .ok (.iconst 1, 1) := by decide +kernel
theorem dX11_put_28 : decode cX11_put 28 = .ok (.ireturn, 1) := by decide +kernel
def f_X11_put (σ : St) (p1 : Int32) (p2 : Int32) (p3 : Int64) : Option (Int32 × St) := bnd2 (f_X11_refusedElement σ p1 p2) (fun r2 σ3 => if r2 = 0 then (chk (p1 < 0 ∨ 6 ≤ p1.toNatClampNeg) (bnd1 (f_X8_enter σ3 ((p1.toNatClampNeg)) p2 p3) (fun σ7 => some ((1 : Int32), σ7)))) else (some (r2, σ3)))
set_option maxHeartbeats 4000000 in
set_option maxRecDepth 100000 in
theorem c_X11_put {l : Launch} {g : va_G} {ts : ClassId × ClassId × ClassId} {a : Nat → Nat} {σ : St} {p1 : Int32} {p2 : Int32} {p3 : Int64} {r : Int32} {σ' : St} (hf : f_X11_put σ p1 p2 p3 = some (r, σ')) : ConI l g ts (WC ts a) yX11_put cX11_put 6 (some .int) (rk 2 45) σ [.ref (a 0), .int p1, .int p2, .long p3] r σ' := by
  refine ConI_mk .int rfl rfl rfl rfl (by decide) (Nat.le_of_ble_eq_true rfl) ?_
  intro p e s m below meth c A Q ls C hQ hP hD hS hl
  have C : FX p s m _ meth c RX11 cX11_put 6 g ts A := C
  have hx := C.1
  have hb := C.2.1
  have hown := C.2.2.2.1
  have hts := C.2.2.2.2.1
  have hl : lv_has ls 6 [(0, .ref (a 0)), (1, .int p1), (2, .int p2), (3, .long p3)] := hl
  rw [f_X11_put] at hf
  refine lv_aload_n hx hb dX11_put_0 rfl (lv_at hl 0 rfl) ?_
  refine lv_iload_n hx hb dX11_put_1 rfl (lv_at hl 1 rfl) ?_
  refine lv_iload_n hx hb dX11_put_2 rfl (lv_at hl 2 rfl) ?_
  obtain ⟨r2, σ3, h1, hf⟩ := bnd2_some hf
  refine vI [] C hP hD hS (c_X11_refusedElement h1) mv_X11_refusedElement q_1033 rv_X11 dX11_put_3 ⟨Nat.le_of_ble_eq_true rfl, Nat.le_of_ble_eq_true rfl⟩ ⟨Nat.zero_le _, Nat.zero_le _⟩ rfl rfl (Nat.le_of_ble_eq_true rfl) hl.1 (fun H locs hP hD hS => ?_)
  refine lv_istore (lv' := [(5, .int r2), (0, .ref (a 0)), (1, .int p1), (2, .int p2), (3, .long p3)]) hx hb dX11_put_6 hl (by decide) rfl (fun ls hl => ?_)
  refine lv_iload hx hb dX11_put_8 (lv_at hl 0 rfl) ?_
  refine lv_if_eq (tgt := 16) hx hb dX11_put_10 (by decide) (fun c4 => ?_) (fun c4 => ?_)
  · replace hf := ipos c4 hf
    refine lv_aload_n hx hb dX11_put_16 rfl (lv_at hl 1 rfl) ?_
    refine G_X11_shelves C hP q_390 dX11_put_17 ?_
    refine lv_iload_n hx hb dX11_put_20 rfl (lv_at hl 2 rfl) ?_
    obtain ⟨h5, hf⟩ := chk_some hf
    refine AL_shelves C hP h5 dX11_put_21 ?_
    refine lv_iload_n hx hb dX11_put_22 rfl (lv_at hl 3 rfl) ?_
    refine lv_lload_n hx hb dX11_put_23 rfl (lv_at hl 4 rfl) ?_
    obtain ⟨σ7, h6, hf⟩ := bnd1_some hf
    refine vV [] C hP hD hS (c_X8_enter (Nat.not_le.mp fun q => h5 (Or.inr q)) h6) mv_X8_enter q_1038 (rv_X8 (Nat.not_le.mp fun q => h5 (Or.inr q))) dX11_put_24 ⟨Nat.le_of_ble_eq_true rfl, Nat.le_of_ble_eq_true rfl⟩ ⟨Nat.zero_le _, Nat.zero_le _⟩ rfl rfl (Nat.le_of_ble_eq_true rfl) hl.1 (fun H locs hP hD hS => ?_)
    refine lv_iconst (v := 1) hx hb dX11_put_27 (by decide) ?_
    exact retI hQ hf dX11_put_28 hP hD hS
  · replace hf := ineg c4 hf
    refine lv_iload hx hb dX11_put_13 (lv_at hl 0 rfl) ?_
    exact retI hQ hf dX11_put_15 hP hD hS
theorem dX11_element_0 : decode cX11_element 0 = .ok (.aload_n 0, 1) := by decide +kernel
theorem dX11_element_1 : decode cX11_element 1 = .ok (.iload_n 1, 1) := by decide +kernel
theorem dX11_element_2 : decode cX11_element 2 = .ok (.iload_n 2, 1) := by decide +kernel
theorem dX11_element_3 : decode cX11_element 3 = .ok (.invokevirtual 366, 3) := by decide +kernel
theorem dX11_element_6 : decode cX11_element 6 = .ok (.ifCond .eq 9, 3) := by decide +kernel
theorem dX11_element_9 : decode cX11_element 9 = .ok (.ldc2_w 153, 3) := by decide +kernel
theorem dX11_element_12 : decode cX11_element 12 = .ok (.goto 14, 3) := by decide +kernel
theorem dX11_element_15 : decode cX11_element 15 = .ok (.aload_n 0, 1) := by decide +kernel
theorem dX11_element_16 : decode cX11_element 16 = .ok (.getfield 81, 3) := by decide +kernel
theorem dX11_element_19 : decode cX11_element 19 = .ok (.iload_n 1, 1) := by decide +kernel
theorem dX11_element_20 : decode cX11_element 20 = .ok (.aaload, 1) := by decide +kernel
theorem dX11_element_21 : decode cX11_element 21 = .ok (.getfield 372, 3) := by decide +kernel
theorem dX11_element_24 : decode cX11_element 24 = .ok (.iload_n 2, 1) := by decide +kernel
theorem dX11_element_25 : decode cX11_element 25 = .ok (.laload, 1) := by decide +kernel
theorem dX11_element_26 : decode cX11_element 26 = .ok (.lreturn, 1) := by decide +kernel
def f_X11_element (σ : St) (p1 : Int32) (p2 : Int32) : Option (Int64 × St) := bnd2 (f_X11_refusedElement σ p1 p2) (fun r2 σ3 => if r2 = 0 then (chk (p1 < 0 ∨ 6 ≤ p1.toNatClampNeg) (chk (p2 < 0 ∨ 60 ≤ p2.toNatClampNeg) (some (σ3.2.2.2.1 400 (p1.toNatClampNeg) p2.toNatClampNeg, σ3)))) else (some ((-9223372036854775808 : Int64), σ3)))
set_option maxHeartbeats 4000000 in
set_option maxRecDepth 100000 in
theorem c_X11_element {l : Launch} {g : va_G} {ts : ClassId × ClassId × ClassId} {a : Nat → Nat} {σ : St} {p1 : Int32} {p2 : Int32} {r : Int64} {σ' : St} (hf : f_X11_element σ p1 p2 = some (r, σ')) : ConL l g ts (WC ts a) yX11_element cX11_element 3 (some .long) (rk 2 44) σ [.ref (a 0), .int p1, .int p2] r σ' := by
  refine ConL_mk rfl rfl (by decide) (Nat.le_of_ble_eq_true rfl) ?_
  intro p e s m below meth c A Q ls C hQ hP hD hS hl
  have C : FX p s m _ meth c RX11 cX11_element 3 g ts A := C
  have hx := C.1
  have hb := C.2.1
  have hown := C.2.2.2.1
  have hts := C.2.2.2.2.1
  have hl : lv_has ls 3 [(0, .ref (a 0)), (1, .int p1), (2, .int p2)] := hl
  rw [f_X11_element] at hf
  refine lv_aload_n hx hb dX11_element_0 rfl (lv_at hl 0 rfl) ?_
  refine lv_iload_n hx hb dX11_element_1 rfl (lv_at hl 1 rfl) ?_
  refine lv_iload_n hx hb dX11_element_2 rfl (lv_at hl 2 rfl) ?_
  obtain ⟨r2, σ3, h1, hf⟩ := bnd2_some hf
  refine vI [] C hP hD hS (c_X11_refusedElement h1) mv_X11_refusedElement q_1033 rv_X11 dX11_element_3 ⟨Nat.le_of_ble_eq_true rfl, Nat.le_of_ble_eq_true rfl⟩ ⟨Nat.zero_le _, Nat.zero_le _⟩ rfl rfl (Nat.le_of_ble_eq_true rfl) hl.1 (fun H locs hP hD hS => ?_)
  refine lv_if_eq (tgt := 15) hx hb dX11_element_6 (by decide) (fun c4 => ?_) (fun c4 => ?_)
  · replace hf := ipos c4 hf
    refine lv_aload_n hx hb dX11_element_15 rfl (lv_at hl 0 rfl) ?_
    refine G_X11_shelves C hP q_390 dX11_element_16 ?_
    refine lv_iload_n hx hb dX11_element_19 rfl (lv_at hl 1 rfl) ?_
    obtain ⟨h5, hf⟩ := chk_some hf
    refine AL_shelves C hP h5 dX11_element_20 ?_
    refine G_X8_elements (Nat.not_le.mp fun q => h5 (Or.inr q)) C hP q_362 dX11_element_21 ?_
    refine lv_iload_n hx hb dX11_element_24 rfl (lv_at hl 2 rfl) ?_
    obtain ⟨h6, hf⟩ := chk_some hf
    refine AL_X8_elements (Nat.not_le.mp fun q => h5 (Or.inr q)) C hP h6 dX11_element_25 ?_
    exact retL hQ hf dX11_element_26 hP hD hS
  · replace hf := ineg c4 hf
    refine lv_ldc2 hx hb hown (hts _ q_661) dX11_element_9 ?_
    refine lv_goto (tgt := 26) hx hb dX11_element_12 (by decide) ?_
    exact retL hQ hf dX11_element_26 hP hD hS
theorem dX11_shift_0 : decode cX11_shift 0 = .ok (.iload_n 1, 1) := by decide +kernel
theorem dX11_shift_1 : decode cX11_shift 1 = .ok (.invokestatic 357, 3) := by decide +kernel
theorem dX11_shift_4 : decode cX11_shift 4 = .ok (.ifCond .eq 10, 3) := by decide +kernel
theorem dX11_shift_7 : decode cX11_shift 7 = .ok (.iload_n 3, 1) := by decide +kernel
theorem dX11_shift_8 : decode cX11_shift 8 = .ok (.invokestatic 357, 3) := by decide +kernel
theorem dX11_shift_11 : decode cX11_shift 11 = .ok (.ifCond .ne 5, 3) := by decide +kernel
theorem dX11_shift_14 : decode cX11_shift 14 = .ok (.iconst (-1), 1) := by decide +kernel
theorem dX11_shift_15 : decode cX11_shift 15 = .ok (.ireturn, 1) := by decide +kernel
theorem dX11_shift_16 : decode cX11_shift 16 = .ok (.aload_n 0, 1) := by decide +kernel
theorem dX11_shift_17 : decode cX11_shift 17 = .ok (.getfield 81, 3) := by decide +kernel
theorem dX11_shift_20 : decode cX11_shift 20 = .ok (.iload_n 1, 1) := by decide +kernel
theorem dX11_shift_21 : decode cX11_shift 21 = .ok (.aaload, 1) := by decide +kernel
theorem dX11_shift_22 : decode cX11_shift 22 = .ok (.astore 6, 2) := by decide +kernel
theorem dX11_shift_24 : decode cX11_shift 24 = .ok (.aload_n 0, 1) := by decide +kernel
theorem dX11_shift_25 : decode cX11_shift 25 = .ok (.getfield 81, 3) := by decide +kernel
theorem dX11_shift_28 : decode cX11_shift 28 = .ok (.iload_n 3, 1) := by decide +kernel
theorem dX11_shift_29 : decode cX11_shift 29 = .ok (.aaload, 1) := by decide +kernel
theorem dX11_shift_30 : decode cX11_shift 30 = .ok (.astore 7, 2) := by decide +kernel
theorem dX11_shift_32 : decode cX11_shift 32 = .ok (.aload 6, 2) := by decide +kernel
theorem dX11_shift_34 : decode cX11_shift 34 = .ok (.invokevirtual 375, 3) := by decide +kernel
theorem dX11_shift_37 : decode cX11_shift 37 = .ok (.ifCond .ne 11, 3) := by decide +kernel
theorem dX11_shift_40 : decode cX11_shift 40 = .ok (.aload 7, 2) := by decide +kernel
theorem dX11_shift_42 : decode cX11_shift 42 = .ok (.invokevirtual 375, 3) := by decide +kernel
theorem dX11_shift_45 : decode cX11_shift 45 = .ok (.ifCond .eq 6, 3) := by decide +kernel
theorem dX11_shift_48 : decode cX11_shift 48 = .ok (.bipush (-11), 2) := by decide +kernel
theorem dX11_shift_50 : decode cX11_shift 50 = .ok (.ireturn, 1) := by decide +kernel
theorem dX11_shift_51 : decode cX11_shift 51 = .ok (.aload 6, 2) := by decide +kernel
theorem dX11_shift_53 : decode cX11_shift 53 = .ok (.invokevirtual 379, 3) := by decide +kernel
theorem dX11_shift_56 : decode cX11_shift 56 = .ok (.ifCond .eq 24, 3) := by decide +kernel
theorem dX11_shift_59 : decode cX11_shift 59 = .ok (.aload 7, 2) := by decide +kernel
theorem dX11_shift_61 : decode cX11_shift 61 = .ok (.invokevirtual 379, 3) := by decide +kernel
theorem dX11_shift_64 : decode cX11_shift 64 = .ok (.ifCond .eq 16, 3) := by decide +kernel
theorem dX11_shift_67 : decode cX11_shift 67 = .ok (.aload 6, 2) := by decide +kernel
theorem dX11_shift_69 : decode cX11_shift 69 = .ok (.getfield 382, 3) := by decide +kernel
theorem dX11_shift_72 : decode cX11_shift 72 = .ok (.aload 7, 2) := by decide +kernel
theorem dX11_shift_74 : decode cX11_shift 74 = .ok (.getfield 382, 3) := by decide +kernel
theorem dX11_shift_77 : decode cX11_shift 77 = .ok (.if_icmp .eq 6, 3) := by decide +kernel
theorem dX11_shift_80 : decode cX11_shift 80 = .ok (.bipush (-12), 2) := by decide +kernel
theorem dX11_shift_82 : decode cX11_shift 82 = .ok (.ireturn, 1) := by decide +kernel
theorem dX11_shift_83 : decode cX11_shift 83 = .ok (.iload 5, 2) := by decide +kernel
theorem dX11_shift_85 : decode cX11_shift 85 = .ok (.ifCond .lt 26, 3) := by decide +kernel
theorem dX11_shift_88 : decode cX11_shift 88 = .ok (.aload 6, 2) := by decide +kernel
theorem dX11_shift_90 : decode cX11_shift 90 = .ok (.iload_n 2, 1) := by decide +kernel
theorem dX11_shift_91 : decode cX11_shift 91 = .ok (.iload 5, 2) := by decide +kernel
theorem dX11_shift_93 : decode cX11_shift 93 = .ok (.invokevirtual 385, 3) := by decide +kernel
theorem dX11_shift_96 : decode cX11_shift 96 = .ok (.ifCond .eq 15, 3) := by decide +kernel
theorem dX11_shift_99 : decode cX11_shift 99 = .ok (.aload 7, 2) := by decide +kernel
theorem dX11_shift_101 : decode cX11_shift 101 = .ok (.iload 4, 2) := by decide +kernel
theorem dX11_shift_103 : decode cX11_shift 103 = .ok (.iload 5, 2) := by decide +kernel
theorem dX11_shift_105 : decode cX11_shift 105 = .ok (.invokevirtual 385, 3) := by decide +kernel
theorem dX11_shift_108 : decode cX11_shift 108 = .ok (.ifCond .ne 6, 3) := by decide +kernel
theorem dX11_shift_111 : decode cX11_shift 111 = .ok (.bipush (-13), 2) := by decide +kernel
theorem dX11_shift_113 : decode cX11_shift 113 = .ok (.ireturn, 1) := by decide +kernel
theorem dX11_shift_114 : decode cX11_shift 114 = .ok (.aload 6, 2) := by decide +kernel
theorem dX11_shift_116 : decode cX11_shift 116 = .ok (.getfield 372, 3) := by decide +kernel
theorem dX11_shift_119 : decode cX11_shift 119 = .ok (.iload_n 2, 1) := by decide +kernel
theorem dX11_shift_120 : decode cX11_shift 120 = .ok (.aload 7, 2) := by decide +kernel
theorem dX11_shift_122 : decode cX11_shift 122 = .ok (.getfield 372, 3) := by decide +kernel
theorem dX11_shift_125 : decode cX11_shift 125 = .ok (.iload 4, 2) := by decide +kernel
theorem dX11_shift_127 : decode cX11_shift 127 = .ok (.iload 5, 2) := by decide +kernel
theorem dX11_shift_129 : decode cX11_shift 129 = .ok (.invokestatic 388, 3) := by decide +kernel
theorem dX11_shift_132 : decode cX11_shift 132 = .ok (.iload 5, 2) := by decide +kernel
theorem dX11_shift_134 : decode cX11_shift 134 = .ok (.ireturn, 1) := by decide +kernel
def f_X11_shift (σ : St) (p1 : Int32) (p2 : Int32) (p3 : Int32) (p4 : Int32) (p5 : Int32) : Option (Int32 × St) := bnd1 (f_X11_shelfThere p1) (fun r2 => if r2 = 0 then (some ((-1 : Int32), σ)) else (bnd1 (f_X11_shelfThere p3) (fun r5 => if r5 = 0 then (some ((-1 : Int32), σ)) else (chk (p1 < 0 ∨ 6 ≤ p1.toNatClampNeg) (chk (p3 < 0 ∨ 6 ≤ p3.toNatClampNeg) (bnd2 (f_X8_isEmpty σ ((p1.toNatClampNeg))) (fun r10 σ11 => if r10 = 0 then (bnd2 (f_X8_isEmpty σ11 ((p3.toNatClampNeg))) (fun r14 σ15 => if r14 = 0 then (bnd2 (f_X8_isRow σ15 ((p1.toNatClampNeg))) (fun r18 σ19 => if r18 = 0 then (some ((-12 : Int32), σ19)) else (bnd2 (f_X8_isRow σ19 ((p3.toNatClampNeg))) (fun r22 σ23 => if r22 = 0 then (some ((-12 : Int32), σ23)) else (if σ23.1 402 (p1.toNatClampNeg) = σ23.1 402 (p3.toNatClampNeg) then (if p5 < 0 then (some ((-13 : Int32), σ23)) else (bnd2 (f_X8_hasRun σ23 ((p1.toNatClampNeg)) p2 p5) (fun r28 σ29 => if r28 = 0 then (some ((-13 : Int32), σ29)) else (bnd2 (f_X8_hasRun σ29 ((p3.toNatClampNeg)) p4 p5) (fun r32 σ33 => if r32 = 0 then (some ((-13 : Int32), σ33)) else (chk (p2 < 0) (chk (p4 < 0) (chk (p5 < 0) (chk (60 < p2.toNatClampNeg + p5.toNatClampNeg) (chk (60 < p4.toNatClampNeg + p5.toNatClampNeg) (bnd (sL σ33 400 (p3.toNatClampNeg) (va_cpy (σ33.2.2.2.1 400 (p1.toNatClampNeg)) (σ33.2.2.2.1 400 (p3.toNatClampNeg)) (p2.toNatClampNeg) (p4.toNatClampNeg) (p5.toNatClampNeg))) (fun σ40 => some (p5, σ40))))))))))))) else (some ((-12 : Int32), σ23))))))) else (some ((-11 : Int32), σ15)))) else (some ((-11 : Int32), σ11)))))))))
set_option maxHeartbeats 4000000 in
set_option maxRecDepth 100000 in
theorem c_X11_shift {l : Launch} {g : va_G} {ts : ClassId × ClassId × ClassId} {a : Nat → Nat} {σ : St} {p1 : Int32} {p2 : Int32} {p3 : Int32} {p4 : Int32} {p5 : Int32} {r : Int32} {σ' : St} (hf : f_X11_shift σ p1 p2 p3 p4 p5 = some (r, σ')) : ConI l g ts (WC ts a) yX11_shift cX11_shift 8 (some .int) (rk 1 48) σ [.ref (a 0), .int p1, .int p2, .int p3, .int p4, .int p5] r σ' := by
  refine ConI_mk .int rfl rfl rfl rfl (by decide) (Nat.le_of_ble_eq_true rfl) ?_
  intro p e s m below meth c A Q ls C hQ hP hD hS hl
  have C : FX p s m _ meth c RX11 cX11_shift 8 g ts A := C
  have hx := C.1
  have hb := C.2.1
  have hown := C.2.2.2.1
  have hts := C.2.2.2.2.1
  have hl : lv_has ls 8 [(0, .ref (a 0)), (1, .int p1), (2, .int p2), (3, .int p3), (4, .int p4), (5, .int p5)] := hl
  rw [f_X11_shift] at hf
  refine lv_iload_n hx hb dX11_shift_0 rfl (lv_at hl 1 rfl) ?_
  obtain ⟨r2, h1, hf⟩ := bnd1_some hf
  refine tI [] C hP hD hS (c_X11_shelfThere h1) ms_X11_shelfThere q_425 dX11_shift_1 ⟨Nat.le_of_ble_eq_true rfl, Nat.le_of_ble_eq_true rfl⟩ ⟨Nat.zero_le _, Nat.zero_le _⟩ rfl rfl (Nat.le_of_ble_eq_true rfl) hl.1 (fun H locs hP hD hS => ?_)
  refine lv_if_eq (tgt := 14) hx hb dX11_shift_4 (by decide) (fun c3 => ?_) (fun c3 => ?_)
  · replace hf := ipos c3 hf
    refine lv_iconst (v := -1) hx hb dX11_shift_14 (by decide) ?_
    exact retI hQ hf dX11_shift_15 hP hD hS
  · replace hf := ineg c3 hf
    refine lv_iload_n hx hb dX11_shift_7 rfl (lv_at hl 3 rfl) ?_
    obtain ⟨r5, h4, hf⟩ := bnd1_some hf
    refine tI [] C hP hD hS (c_X11_shelfThere h4) ms_X11_shelfThere q_425 dX11_shift_8 ⟨Nat.le_of_ble_eq_true rfl, Nat.le_of_ble_eq_true rfl⟩ ⟨Nat.zero_le _, Nat.zero_le _⟩ rfl rfl (Nat.le_of_ble_eq_true rfl) hl.1 (fun H locs hP hD hS => ?_)
    refine lv_if_ne (tgt := 16) hx hb dX11_shift_11 (by decide) (fun c6 => ?_) (fun c6 => ?_)
    · replace hf := ineg c6 hf
      refine lv_aload_n hx hb dX11_shift_16 rfl (lv_at hl 0 rfl) ?_
      refine G_X11_shelves C hP q_390 dX11_shift_17 ?_
      refine lv_iload_n hx hb dX11_shift_20 rfl (lv_at hl 1 rfl) ?_
      obtain ⟨h7, hf⟩ := chk_some hf
      refine AL_shelves C hP h7 dX11_shift_21 ?_
      refine lv_astore (lv' := [(6, .ref (a (36 + 2 * (p1.toNatClampNeg)))), (0, .ref (a 0)), (1, .int p1), (2, .int p2), (3, .int p3), (4, .int p4), (5, .int p5)]) hx hb dX11_shift_22 hl (by decide) rfl (fun ls hl => ?_)
      refine lv_aload_n hx hb dX11_shift_24 rfl (lv_at hl 1 rfl) ?_
      refine G_X11_shelves C hP q_390 dX11_shift_25 ?_
      refine lv_iload_n hx hb dX11_shift_28 rfl (lv_at hl 4 rfl) ?_
      obtain ⟨h8, hf⟩ := chk_some hf
      refine AL_shelves C hP h8 dX11_shift_29 ?_
      refine lv_astore (lv' := [(7, .ref (a (36 + 2 * (p3.toNatClampNeg)))), (6, .ref (a (36 + 2 * (p1.toNatClampNeg)))), (0, .ref (a 0)), (1, .int p1), (2, .int p2), (3, .int p3), (4, .int p4), (5, .int p5)]) hx hb dX11_shift_30 hl (by decide) rfl (fun ls hl => ?_)
      refine lv_aload hx hb dX11_shift_32 (lv_at hl 1 rfl) ?_
      obtain ⟨r10, σ11, h9, hf⟩ := bnd2_some hf
      refine vI [] C hP hD hS (c_X8_isEmpty (Nat.not_le.mp fun q => h7 (Or.inr q)) h9) mv_X8_isEmpty q_428 (rv_X8 (Nat.not_le.mp fun q => h7 (Or.inr q))) dX11_shift_34 ⟨Nat.le_of_ble_eq_true rfl, Nat.le_of_ble_eq_true rfl⟩ ⟨Nat.zero_le _, Nat.zero_le _⟩ rfl rfl (Nat.le_of_ble_eq_true rfl) hl.1 (fun H locs hP hD hS => ?_)
      refine lv_if_ne (tgt := 48) hx hb dX11_shift_37 (by decide) (fun c12 => ?_) (fun c12 => ?_)
      · replace hf := ineg c12 hf
        refine lv_bipush (v := -11) hx hb dX11_shift_48 (by decide) ?_
        exact retI hQ hf dX11_shift_50 hP hD hS
      · replace hf := ipos c12 hf
        refine lv_aload hx hb dX11_shift_40 (lv_at hl 0 rfl) ?_
        obtain ⟨r14, σ15, h13, hf⟩ := bnd2_some hf
        refine vI [] C hP hD hS (c_X8_isEmpty (Nat.not_le.mp fun q => h8 (Or.inr q)) h13) mv_X8_isEmpty q_428 (rv_X8 (Nat.not_le.mp fun q => h8 (Or.inr q))) dX11_shift_42 ⟨Nat.le_of_ble_eq_true rfl, Nat.le_of_ble_eq_true rfl⟩ ⟨Nat.zero_le _, Nat.zero_le _⟩ rfl rfl (Nat.le_of_ble_eq_true rfl) hl.1 (fun H locs hP hD hS => ?_)
        refine lv_if_eq (tgt := 51) hx hb dX11_shift_45 (by decide) (fun c16 => ?_) (fun c16 => ?_)
        · replace hf := ipos c16 hf
          refine lv_aload hx hb dX11_shift_51 (lv_at hl 1 rfl) ?_
          obtain ⟨r18, σ19, h17, hf⟩ := bnd2_some hf
          refine vI [] C hP hD hS (c_X8_isRow (Nat.not_le.mp fun q => h7 (Or.inr q)) h17) mv_X8_isRow q_432 (rv_X8 (Nat.not_le.mp fun q => h7 (Or.inr q))) dX11_shift_53 ⟨Nat.le_of_ble_eq_true rfl, Nat.le_of_ble_eq_true rfl⟩ ⟨Nat.zero_le _, Nat.zero_le _⟩ rfl rfl (Nat.le_of_ble_eq_true rfl) hl.1 (fun H locs hP hD hS => ?_)
          refine lv_if_eq (tgt := 80) hx hb dX11_shift_56 (by decide) (fun c20 => ?_) (fun c20 => ?_)
          · replace hf := ipos c20 hf
            refine lv_bipush (v := -12) hx hb dX11_shift_80 (by decide) ?_
            exact retI hQ hf dX11_shift_82 hP hD hS
          · replace hf := ineg c20 hf
            refine lv_aload hx hb dX11_shift_59 (lv_at hl 0 rfl) ?_
            obtain ⟨r22, σ23, h21, hf⟩ := bnd2_some hf
            refine vI [] C hP hD hS (c_X8_isRow (Nat.not_le.mp fun q => h8 (Or.inr q)) h21) mv_X8_isRow q_432 (rv_X8 (Nat.not_le.mp fun q => h8 (Or.inr q))) dX11_shift_61 ⟨Nat.le_of_ble_eq_true rfl, Nat.le_of_ble_eq_true rfl⟩ ⟨Nat.zero_le _, Nat.zero_le _⟩ rfl rfl (Nat.le_of_ble_eq_true rfl) hl.1 (fun H locs hP hD hS => ?_)
            refine lv_if_eq (tgt := 80) hx hb dX11_shift_64 (by decide) (fun c24 => ?_) (fun c24 => ?_)
            · replace hf := ipos c24 hf
              refine lv_bipush (v := -12) hx hb dX11_shift_80 (by decide) ?_
              exact retI hQ hf dX11_shift_82 hP hD hS
            · replace hf := ineg c24 hf
              refine lv_aload hx hb dX11_shift_67 (lv_at hl 1 rfl) ?_
              refine G_X8_sort (Nat.not_le.mp fun q => h7 (Or.inr q)) C hP q_366 dX11_shift_69 ?_
              refine lv_aload hx hb dX11_shift_72 (lv_at hl 0 rfl) ?_
              refine G_X8_sort (Nat.not_le.mp fun q => h8 (Or.inr q)) C hP q_366 dX11_shift_74 ?_
              refine lv_icmp_eq (tgt := 83) hx hb dX11_shift_77 (by decide) (fun c25 => ?_) (fun c25 => ?_)
              · replace hf := ipos c25 hf
                refine lv_iload hx hb dX11_shift_83 (lv_at hl 7 rfl) ?_
                refine lv_if_lt (tgt := 111) hx hb dX11_shift_85 (by decide) (fun c26 => ?_) (fun c26 => ?_)
                · replace hf := ipos c26 hf
                  refine lv_bipush (v := -13) hx hb dX11_shift_111 (by decide) ?_
                  exact retI hQ hf dX11_shift_113 hP hD hS
                · replace hf := ineg c26 hf
                  refine lv_aload hx hb dX11_shift_88 (lv_at hl 1 rfl) ?_
                  refine lv_iload_n hx hb dX11_shift_90 rfl (lv_at hl 4 rfl) ?_
                  refine lv_iload hx hb dX11_shift_91 (lv_at hl 7 rfl) ?_
                  obtain ⟨r28, σ29, h27, hf⟩ := bnd2_some hf
                  refine vI [] C hP hD hS (c_X8_hasRun (Nat.not_le.mp fun q => h7 (Or.inr q)) h27) mv_X8_hasRun q_1037 (rv_X8 (Nat.not_le.mp fun q => h7 (Or.inr q))) dX11_shift_93 ⟨Nat.le_of_ble_eq_true rfl, Nat.le_of_ble_eq_true rfl⟩ ⟨Nat.zero_le _, Nat.zero_le _⟩ rfl rfl (Nat.le_of_ble_eq_true rfl) hl.1 (fun H locs hP hD hS => ?_)
                  refine lv_if_eq (tgt := 111) hx hb dX11_shift_96 (by decide) (fun c30 => ?_) (fun c30 => ?_)
                  · replace hf := ipos c30 hf
                    refine lv_bipush (v := -13) hx hb dX11_shift_111 (by decide) ?_
                    exact retI hQ hf dX11_shift_113 hP hD hS
                  · replace hf := ineg c30 hf
                    refine lv_aload hx hb dX11_shift_99 (lv_at hl 0 rfl) ?_
                    refine lv_iload hx hb dX11_shift_101 (lv_at hl 6 rfl) ?_
                    refine lv_iload hx hb dX11_shift_103 (lv_at hl 7 rfl) ?_
                    obtain ⟨r32, σ33, h31, hf⟩ := bnd2_some hf
                    refine vI [] C hP hD hS (c_X8_hasRun (Nat.not_le.mp fun q => h8 (Or.inr q)) h31) mv_X8_hasRun q_1037 (rv_X8 (Nat.not_le.mp fun q => h8 (Or.inr q))) dX11_shift_105 ⟨Nat.le_of_ble_eq_true rfl, Nat.le_of_ble_eq_true rfl⟩ ⟨Nat.zero_le _, Nat.zero_le _⟩ rfl rfl (Nat.le_of_ble_eq_true rfl) hl.1 (fun H locs hP hD hS => ?_)
                    refine lv_if_ne (tgt := 114) hx hb dX11_shift_108 (by decide) (fun c34 => ?_) (fun c34 => ?_)
                    · replace hf := ineg c34 hf
                      refine lv_aload hx hb dX11_shift_114 (lv_at hl 1 rfl) ?_
                      refine G_X8_elements (Nat.not_le.mp fun q => h7 (Or.inr q)) C hP q_362 dX11_shift_116 ?_
                      refine lv_iload_n hx hb dX11_shift_119 rfl (lv_at hl 4 rfl) ?_
                      refine lv_aload hx hb dX11_shift_120 (lv_at hl 0 rfl) ?_
                      refine G_X8_elements (Nat.not_le.mp fun q => h8 (Or.inr q)) C hP q_362 dX11_shift_122 ?_
                      refine lv_iload hx hb dX11_shift_125 (lv_at hl 6 rfl) ?_
                      refine lv_iload hx hb dX11_shift_127 (lv_at hl 7 rfl) ?_
                      obtain ⟨h35, hf⟩ := chk_some hf
                      obtain ⟨h36, hf⟩ := chk_some hf
                      obtain ⟨h37, hf⟩ := chk_some hf
                      obtain ⟨h38, hf⟩ := chk_some hf
                      obtain ⟨h39, hf⟩ := chk_some hf
                      refine va_copyl (D := g) hx hb (C.2.2.1.trans hl.1.symm) hown (hts _ q_1054) (hts _ q_958) (hts _ q_957) (hts _ q_78) C.2.2.2.2.2.2.1 hP hD hS (36 + 2 * (p1.toNatClampNeg) + 1) (36 + 2 * (p3.toNatClampNeg) + 1) 1 1 (arr_X8_elements (Nat.not_le.mp fun q => h7 (Or.inr q))) (arr_X8_elements (Nat.not_le.mp fun q => h8 (Or.inr q))) rfl rfl rfl h35 h36 h37 (Nat.not_lt.mp h38) (Nat.not_lt.mp h39) (fun _ _ => rfl) (Nat.le_of_ble_eq_true rfl) (Nat.le_of_ble_eq_true rfl) dX11_shift_129 (fun H locs h1 h2 hS => ?_)
                      rw [aput_X8_elements (Nat.not_le.mp fun q => h8 (Or.inr q))] at h1 h2
                      have hP := h1
                      have hD := h2
                      refine nameS hP hD hf (fun σ40 hP hD hf => ?_)
                      refine lv_iload hx hb dX11_shift_132 (lv_at hl 7 rfl) ?_
                      exact retI hQ hf dX11_shift_134 hP hD hS
                    · replace hf := ipos c34 hf
                      refine lv_bipush (v := -13) hx hb dX11_shift_111 (by decide) ?_
                      exact retI hQ hf dX11_shift_113 hP hD hS
              · replace hf := ineg c25 hf
                refine lv_bipush (v := -12) hx hb dX11_shift_80 (by decide) ?_
                exact retI hQ hf dX11_shift_82 hP hD hS
        · replace hf := ineg c16 hf
          refine lv_bipush (v := -11) hx hb dX11_shift_48 (by decide) ?_
          exact retI hQ hf dX11_shift_50 hP hD hS
    · replace hf := ipos c6 hf
      refine lv_iconst (v := -1) hx hb dX11_shift_14 (by decide) ?_
      exact retI hQ hf dX11_shift_15 hP hD hS
theorem dX11_taken_0 : decode cX11_taken 0 = .ok (.iload_n 1, 1) := by decide +kernel
theorem dX11_taken_1 : decode cX11_taken 1 = .ok (.invokestatic 357, 3) := by decide +kernel
theorem dX11_taken_4 : decode cX11_taken 4 = .ok (.ifCond .eq 13, 3) := by decide +kernel
theorem dX11_taken_7 : decode cX11_taken 7 = .ok (.iload_n 2, 1) := by decide +kernel
theorem dX11_taken_8 : decode cX11_taken 8 = .ok (.ifCond .lt 9, 3) := by decide +kernel
theorem dX11_taken_11 : decode cX11_taken 11 = .ok (.iload_n 2, 1) := by decide +kernel
theorem dX11_taken_12 : decode cX11_taken 12 = .ok (.bipush 8, 2) := by decide +kernel
theorem dX11_taken_14 : decode cX11_taken 14 = .ok (.if_icmp .lt 5, 3) := by decide +kernel
theorem dX11_taken_17 : decode cX11_taken 17 = .ok (.iconst (-1), 1) := by decide +kernel
theorem dX11_taken_18 : decode cX11_taken 18 = .ok (.ireturn, 1) := by decide +kernel
theorem dX11_taken_19 : decode cX11_taken 19 = .ok (.aload_n 0, 1) := by decide +kernel
theorem dX11_taken_20 : decode cX11_taken 20 = .ok (.getfield 81, 3) := by decide +kernel
theorem dX11_taken_23 : decode cX11_taken 23 = .ok (.iload_n 1, 1) := by decide +kernel
theorem dX11_taken_24 : decode cX11_taken 24 = .ok (.aaload, 1) := by decide +kernel
theorem dX11_taken_25 : decode cX11_taken 25 = .ok (.astore_n 3, 1) := by decide +kernel
theorem dX11_taken_26 : decode cX11_taken 26 = .ok (.aload_n 3, 1) := by decide +kernel
theorem dX11_taken_27 : decode cX11_taken 27 = .ok (.invokevirtual 375, 3) := by decide +kernel
theorem dX11_taken_30 : decode cX11_taken 30 = .ok (.ifCond .eq 6, 3) := by decide +kernel
theorem dX11_taken_33 : decode cX11_taken 33 = .ok (.bipush (-11), 2) := by decide +kernel
theorem dX11_taken_35 : decode cX11_taken 35 = .ok (.ireturn, 1) := by decide +kernel
theorem dX11_taken_36 : decode cX11_taken 36 = .ok (.aload_n 3, 1) := by decide +kernel
theorem dX11_taken_37 : decode cX11_taken 37 = .ok (.invokevirtual 379, 3) := by decide +kernel
theorem dX11_taken_40 : decode cX11_taken 40 = .ok (.ifCond .ne 17, 3) := by decide +kernel
theorem dX11_taken_43 : decode cX11_taken 43 = .ok (.aload_n 0, 1) := by decide +kernel
theorem dX11_taken_44 : decode cX11_taken 44 = .ok (.getfield 75, 3) := by decide +kernel
theorem dX11_taken_47 : decode cX11_taken 47 = .ok (.aload_n 3, 1) := by decide +kernel
theorem dX11_taken_48 : decode cX11_taken 48 = .ok (.getfield 394, 3) := by decide +kernel
theorem dX11_taken_51 : decode cX11_taken 51 = .ok (.invokevirtual 348, 3) := by decide +kernel
theorem dX11_taken_54 : decode cX11_taken 54 = .ok (.ifCond .ne 6, 3) := by decide +kernel
theorem dX11_taken_57 : decode cX11_taken 57 = .ok (.bipush (-12), 2) := by decide +kernel
theorem dX11_taken_59 : decode cX11_taken 59 = .ok (.ireturn, 1) := by decide +kernel
theorem dX11_taken_60 : decode cX11_taken 60 = .ok (.aload_n 0, 1) := by decide +kernel
theorem dX11_taken_61 : decode cX11_taken 61 = .ok (.getfield 75, 3) := by decide +kernel
theorem dX11_taken_64 : decode cX11_taken 64 = .ok (.getfield 349, 3) := by decide +kernel
theorem dX11_taken_67 : decode cX11_taken 67 = .ok (.aload_n 3, 1) := by decide +kernel
theorem dX11_taken_68 : decode cX11_taken 68 = .ok (.getfield 394, 3) := by decide +kernel
theorem dX11_taken_71 : decode cX11_taken 71 = .ok (.iaload, 1) := by decide +kernel
theorem dX11_taken_72 : decode cX11_taken 72 = .ok (.istore 4, 2) := by decide +kernel
theorem dX11_taken_74 : decode cX11_taken 74 = .ok (.iload 4, 2) := by decide +kernel
theorem dX11_taken_76 : decode cX11_taken 76 = .ok (.iload_n 2, 1) := by decide +kernel
theorem dX11_taken_77 : decode cX11_taken 77 = .ok (.invokestatic 397, 3) := by decide +kernel
theorem dX11_taken_80 : decode cX11_taken 80 = .ok (.ifCond .eq 8, 3) := by decide +kernel
theorem dX11_taken_83 : decode cX11_taken 83 = .ok (.iload 4, 2) := by decide +kernel
theorem dX11_taken_85 : decode cX11_taken 85 = .ok (.goto 5, 3) := by decide +kernel
theorem dX11_taken_88 : decode cX11_taken 88 = .ok (.bipush (-12), 2) := by decide +kernel
theorem dX11_taken_90 : decode cX11_taken 90 = .ok (.ireturn, 1) := by decide +kernel
def f_X11_taken (σ : St) (p1 : Int32) (p2 : Int32) : Option (Int32 × St) := bnd1 (f_X11_shelfThere p1) (fun r2 => if r2 = 0 then (some ((-1 : Int32), σ)) else (if p2 < 0 then (some ((-1 : Int32), σ)) else (if p2 < (8 : Int32) then (chk (p1 < 0 ∨ 6 ≤ p1.toNatClampNeg) (bnd2 (f_X8_isEmpty σ ((p1.toNatClampNeg))) (fun r8 σ9 => if r8 = 0 then (bnd2 (f_X8_isRow σ9 ((p1.toNatClampNeg))) (fun r12 σ13 => if r12 = 0 then (bnd2 (f_X10_has σ13 (σ13.1 401 (p1.toNatClampNeg))) (fun r16 σ17 => if r16 = 0 then (some ((-12 : Int32), σ17)) else (chk (σ17.1 401 (p1.toNatClampNeg) < 0 ∨ 50 ≤ (σ17.1 401 (p1.toNatClampNeg)).toNatClampNeg) (bnd (σ17.2.2.1 500 0 (σ17.1 401 (p1.toNatClampNeg)).toNatClampNeg) (fun v20 => bnd1 (f_X10_isUnder v20 p2) (fun r22 => if r22 = 0 then (some ((-12 : Int32), σ17)) else (some (v20, σ17)))))))) else (some ((-12 : Int32), σ13)))) else (some ((-11 : Int32), σ9))))) else (some ((-1 : Int32), σ)))))
set_option maxHeartbeats 4000000 in
set_option maxRecDepth 100000 in
theorem c_X11_taken {l : Launch} {g : va_G} {ts : ClassId × ClassId × ClassId} {a : Nat → Nat} {σ : St} {p1 : Int32} {p2 : Int32} {r : Int32} {σ' : St} (hf : f_X11_taken σ p1 p2 = some (r, σ')) : ConI l g ts (WC ts a) yX11_taken cX11_taken 5 (some .int) (rk 1 23) σ [.ref (a 0), .int p1, .int p2] r σ' := by
  refine ConI_mk .int rfl rfl rfl rfl (by decide) (Nat.le_of_ble_eq_true rfl) ?_
  intro p e s m below meth c A Q ls C hQ hP hD hS hl
  have C : FX p s m _ meth c RX11 cX11_taken 5 g ts A := C
  have hx := C.1
  have hb := C.2.1
  have hown := C.2.2.2.1
  have hts := C.2.2.2.2.1
  have hl : lv_has ls 5 [(0, .ref (a 0)), (1, .int p1), (2, .int p2)] := hl
  rw [f_X11_taken] at hf
  refine lv_iload_n hx hb dX11_taken_0 rfl (lv_at hl 1 rfl) ?_
  obtain ⟨r2, h1, hf⟩ := bnd1_some hf
  refine tI [] C hP hD hS (c_X11_shelfThere h1) ms_X11_shelfThere q_425 dX11_taken_1 ⟨Nat.le_of_ble_eq_true rfl, Nat.le_of_ble_eq_true rfl⟩ ⟨Nat.zero_le _, Nat.zero_le _⟩ rfl rfl (Nat.le_of_ble_eq_true rfl) hl.1 (fun H locs hP hD hS => ?_)
  refine lv_if_eq (tgt := 17) hx hb dX11_taken_4 (by decide) (fun c3 => ?_) (fun c3 => ?_)
  · replace hf := ipos c3 hf
    refine lv_iconst (v := -1) hx hb dX11_taken_17 (by decide) ?_
    exact retI hQ hf dX11_taken_18 hP hD hS
  · replace hf := ineg c3 hf
    refine lv_iload_n hx hb dX11_taken_7 rfl (lv_at hl 2 rfl) ?_
    refine lv_if_lt (tgt := 17) hx hb dX11_taken_8 (by decide) (fun c4 => ?_) (fun c4 => ?_)
    · replace hf := ipos c4 hf
      refine lv_iconst (v := -1) hx hb dX11_taken_17 (by decide) ?_
      exact retI hQ hf dX11_taken_18 hP hD hS
    · replace hf := ineg c4 hf
      refine lv_iload_n hx hb dX11_taken_11 rfl (lv_at hl 2 rfl) ?_
      refine lv_bipush (v := 8) hx hb dX11_taken_12 (by decide) ?_
      refine lv_icmp_lt (tgt := 19) hx hb dX11_taken_14 (by decide) (fun c5 => ?_) (fun c5 => ?_)
      · replace hf := ipos c5 hf
        refine lv_aload_n hx hb dX11_taken_19 rfl (lv_at hl 0 rfl) ?_
        refine G_X11_shelves C hP q_390 dX11_taken_20 ?_
        refine lv_iload_n hx hb dX11_taken_23 rfl (lv_at hl 1 rfl) ?_
        obtain ⟨h6, hf⟩ := chk_some hf
        refine AL_shelves C hP h6 dX11_taken_24 ?_
        refine lv_astore_n (lv' := [(3, .ref (a (36 + 2 * (p1.toNatClampNeg)))), (0, .ref (a 0)), (1, .int p1), (2, .int p2)]) hx hb dX11_taken_25 rfl hl (by decide) rfl (fun ls hl => ?_)
        refine lv_aload_n hx hb dX11_taken_26 rfl (lv_at hl 0 rfl) ?_
        obtain ⟨r8, σ9, h7, hf⟩ := bnd2_some hf
        refine vI [] C hP hD hS (c_X8_isEmpty (Nat.not_le.mp fun q => h6 (Or.inr q)) h7) mv_X8_isEmpty q_428 (rv_X8 (Nat.not_le.mp fun q => h6 (Or.inr q))) dX11_taken_27 ⟨Nat.le_of_ble_eq_true rfl, Nat.le_of_ble_eq_true rfl⟩ ⟨Nat.zero_le _, Nat.zero_le _⟩ rfl rfl (Nat.le_of_ble_eq_true rfl) hl.1 (fun H locs hP hD hS => ?_)
        refine lv_if_eq (tgt := 36) hx hb dX11_taken_30 (by decide) (fun c10 => ?_) (fun c10 => ?_)
        · replace hf := ipos c10 hf
          refine lv_aload_n hx hb dX11_taken_36 rfl (lv_at hl 0 rfl) ?_
          obtain ⟨r12, σ13, h11, hf⟩ := bnd2_some hf
          refine vI [] C hP hD hS (c_X8_isRow (Nat.not_le.mp fun q => h6 (Or.inr q)) h11) mv_X8_isRow q_432 (rv_X8 (Nat.not_le.mp fun q => h6 (Or.inr q))) dX11_taken_37 ⟨Nat.le_of_ble_eq_true rfl, Nat.le_of_ble_eq_true rfl⟩ ⟨Nat.zero_le _, Nat.zero_le _⟩ rfl rfl (Nat.le_of_ble_eq_true rfl) hl.1 (fun H locs hP hD hS => ?_)
          refine lv_if_ne (tgt := 57) hx hb dX11_taken_40 (by decide) (fun c14 => ?_) (fun c14 => ?_)
          · replace hf := ineg c14 hf
            refine lv_bipush (v := -12) hx hb dX11_taken_57 (by decide) ?_
            exact retI hQ hf dX11_taken_59 hP hD hS
          · replace hf := ipos c14 hf
            refine lv_aload_n hx hb dX11_taken_43 rfl (lv_at hl 1 rfl) ?_
            refine G_X11_spellings C hP q_389 dX11_taken_44 ?_
            refine lv_aload_n hx hb dX11_taken_47 rfl (lv_at hl 0 rfl) ?_
            refine G_X8_body (Nat.not_le.mp fun q => h6 (Or.inr q)) C hP q_364 dX11_taken_48 ?_
            obtain ⟨r16, σ17, h15, hf⟩ := bnd2_some hf
            refine vI [] C hP hD hS (c_X10_has h15) mv_X10_has q_991 rv_X10 dX11_taken_51 ⟨Nat.le_of_ble_eq_true rfl, Nat.le_of_ble_eq_true rfl⟩ ⟨Nat.zero_le _, Nat.zero_le _⟩ rfl rfl (Nat.le_of_ble_eq_true rfl) hl.1 (fun H locs hP hD hS => ?_)
            refine lv_if_ne (tgt := 60) hx hb dX11_taken_54 (by decide) (fun c18 => ?_) (fun c18 => ?_)
            · replace hf := ineg c18 hf
              refine lv_aload_n hx hb dX11_taken_60 rfl (lv_at hl 1 rfl) ?_
              refine G_X11_spellings C hP q_389 dX11_taken_61 ?_
              refine G_X10_kinds C hP q_338 dX11_taken_64 ?_
              refine lv_aload_n hx hb dX11_taken_67 rfl (lv_at hl 0 rfl) ?_
              refine G_X8_body (Nat.not_le.mp fun q => h6 (Or.inr q)) C hP q_364 dX11_taken_68 ?_
              obtain ⟨h19, hf⟩ := chk_some hf
              refine AL_X10_kinds C hP h19 dX11_taken_71 ?_
              refine lv_topi (fun v20 ev20 => ?_)
              replace hf := bnd_at ev20 hf
              refine lv_istore (lv' := [(4, .int v20), (3, .ref (a (36 + 2 * (p1.toNatClampNeg)))), (0, .ref (a 0)), (1, .int p1), (2, .int p2)]) hx hb dX11_taken_72 hl (by decide) rfl (fun ls hl => ?_)
              refine lv_iload hx hb dX11_taken_74 (lv_at hl 0 rfl) ?_
              refine lv_iload_n hx hb dX11_taken_76 rfl (lv_at hl 4 rfl) ?_
              obtain ⟨r22, h21, hf⟩ := bnd1_some hf
              refine tI [] C hP hD hS (c_X10_isUnder h21) ms_X10_isUnder q_1059 dX11_taken_77 ⟨Nat.le_of_ble_eq_true rfl, Nat.le_of_ble_eq_true rfl⟩ ⟨Nat.zero_le _, Nat.zero_le _⟩ rfl rfl (Nat.le_of_ble_eq_true rfl) hl.1 (fun H locs hP hD hS => ?_)
              refine lv_if_eq (tgt := 88) hx hb dX11_taken_80 (by decide) (fun c23 => ?_) (fun c23 => ?_)
              · replace hf := ipos c23 hf
                refine lv_bipush (v := -12) hx hb dX11_taken_88 (by decide) ?_
                exact retI hQ hf dX11_taken_90 hP hD hS
              · replace hf := ineg c23 hf
                refine lv_iload hx hb dX11_taken_83 (lv_at hl 0 rfl) ?_
                refine lv_goto (tgt := 90) hx hb dX11_taken_85 (by decide) ?_
                exact retI hQ hf dX11_taken_90 hP hD hS
            · replace hf := ipos c18 hf
              refine lv_bipush (v := -12) hx hb dX11_taken_57 (by decide) ?_
              exact retI hQ hf dX11_taken_59 hP hD hS
        · replace hf := ineg c10 hf
          refine lv_bipush (v := -11) hx hb dX11_taken_33 (by decide) ?_
          exact retI hQ hf dX11_taken_35 hP hD hS
      · replace hf := ineg c5 hf
        refine lv_iconst (v := -1) hx hb dX11_taken_17 (by decide) ?_
        exact retI hQ hf dX11_taken_18 hP hD hS
theorem dX11_count_0 : decode cX11_count 0 = .ok (.iload_n 1, 1) := by decide +kernel
theorem dX11_count_1 : decode cX11_count 1 = .ok (.tableswitch 75 0 4 #[35, 43, 51, 59, 67], 35) := by decide +kernel
theorem dX11_count_36 : decode cX11_count 36 = .ok (.aload_n 0, 1) := by decide +kernel
theorem dX11_count_37 : decode cX11_count 37 = .ok (.getfield 19, 3) := by decide +kernel
theorem dX11_count_40 : decode cX11_count 40 = .ok (.getfield 94, 3) := by decide +kernel
theorem dX11_count_43 : decode cX11_count 43 = .ok (.ireturn, 1) := by decide +kernel
theorem dX11_count_44 : decode cX11_count 44 = .ok (.aload_n 0, 1) := by decide +kernel
theorem dX11_count_45 : decode cX11_count 45 = .ok (.getfield 51, 3) := by decide +kernel
theorem dX11_count_48 : decode cX11_count 48 = .ok (.getfield 136, 3) := by decide +kernel
theorem dX11_count_51 : decode cX11_count 51 = .ok (.ireturn, 1) := by decide +kernel
theorem dX11_count_52 : decode cX11_count 52 = .ok (.aload_n 0, 1) := by decide +kernel
theorem dX11_count_53 : decode cX11_count 53 = .ok (.getfield 58, 3) := by decide +kernel
theorem dX11_count_56 : decode cX11_count 56 = .ok (.getfield 329, 3) := by decide +kernel
theorem dX11_count_59 : decode cX11_count 59 = .ok (.ireturn, 1) := by decide +kernel
theorem dX11_count_60 : decode cX11_count 60 = .ok (.aload_n 0, 1) := by decide +kernel
theorem dX11_count_61 : decode cX11_count 61 = .ok (.getfield 75, 3) := by decide +kernel
theorem dX11_count_64 : decode cX11_count 64 = .ok (.getfield 341, 3) := by decide +kernel
theorem dX11_count_67 : decode cX11_count 67 = .ok (.ireturn, 1) := by decide +kernel
theorem dX11_count_68 : decode cX11_count 68 = .ok (.aload_n 0, 1) := by decide +kernel
theorem dX11_count_69 : decode cX11_count 69 = .ok (.getfield 75, 3) := by decide +kernel
theorem dX11_count_72 : decode cX11_count 72 = .ok (.getfield 345, 3) := by decide +kernel
theorem dX11_count_75 : decode cX11_count 75 = .ok (.ireturn, 1) := by decide +kernel
theorem dX11_count_76 : decode cX11_count 76 = .ok (.iconst (-1), 1) := by decide +kernel
theorem dX11_count_77 : decode cX11_count 77 = .ok (.ireturn, 1) := by decide +kernel
def f_X11_count (σ : St) (p1 : Int32) : Option (Int32 × St) := if p1 = 0 then (some (σ.1 303 0, σ)) else (if p1 = 1 then (some (σ.1 351 0, σ)) else (if p1 = 2 then (some (σ.1 4 0, σ)) else (if p1 = 3 then (some (σ.1 502 0, σ)) else (if p1 = 4 then (some (σ.1 503 0, σ)) else (some ((-1 : Int32), σ))))))
set_option maxHeartbeats 4000000 in
set_option maxRecDepth 100000 in
theorem c_X11_count {l : Launch} {g : va_G} {ts : ClassId × ClassId × ClassId} {a : Nat → Nat} {σ : St} {p1 : Int32} {r : Int32} {σ' : St} (hf : f_X11_count σ p1 = some (r, σ')) : ConI l g ts (WC ts a) yX11_count cX11_count 2 (some .int) (rk 0 0) σ [.ref (a 0), .int p1] r σ' := by
  refine ConI_mk .int rfl rfl rfl rfl (by decide) (Nat.le_of_ble_eq_true rfl) ?_
  intro p e s m below meth c A Q ls C hQ hP hD hS hl
  have C : FX p s m _ meth c RX11 cX11_count 2 g ts A := C
  have hx := C.1
  have hb := C.2.1
  have hown := C.2.2.2.1
  have hts := C.2.2.2.2.1
  have hl : lv_has ls 2 [(0, .ref (a 0)), (1, .int p1)] := hl
  rw [f_X11_count] at hf
  refine lv_iload_n hx hb dX11_count_0 rfl (lv_at hl 1 rfl) ?_
  by_cases c1 : p1 = 0
  · replace hf := ipos c1 hf
    refine lv_tableIn (off := 35) (tgt := 36) hx hb dX11_count_1 (by rw [c1]; decide) (by rw [c1]; decide) (by rw [c1]; rfl) (by decide) ?_
    refine lv_aload_n hx hb dX11_count_36 rfl (lv_at hl 0 rfl) ?_
    refine G_X11_names C hP q_381 dX11_count_37 ?_
    refine G_X6_number C hP q_166 dX11_count_40 ?_
    exact retI hQ hf dX11_count_43 hP hD hS
  · replace hf := ineg c1 hf
    by_cases c2 : p1 = 1
    · replace hf := ipos c2 hf
      refine lv_tableIn (off := 43) (tgt := 44) hx hb dX11_count_1 (by rw [c2]; decide) (by rw [c2]; decide) (by rw [c2]; rfl) (by decide) ?_
      refine lv_aload_n hx hb dX11_count_44 rfl (lv_at hl 0 rfl) ?_
      refine G_X11_reader C hP q_385 dX11_count_45 ?_
      refine G_X7_length C hP q_247 dX11_count_48 ?_
      exact retI hQ hf dX11_count_51 hP hD hS
    · replace hf := ineg c2 hf
      by_cases c3 : p1 = 2
      · replace hf := ipos c3 hf
        refine lv_tableIn (off := 51) (tgt := 52) hx hb dX11_count_1 (by rw [c3]; decide) (by rw [c3]; decide) (by rw [c3]; rfl) (by decide) ?_
        refine lv_aload_n hx hb dX11_count_52 rfl (lv_at hl 0 rfl) ?_
        refine G_X11_changes C hP q_386 dX11_count_53 ?_
        refine G_X0_done C hP q_274 dX11_count_56 ?_
        exact retI hQ hf dX11_count_59 hP hD hS
      · replace hf := ineg c3 hf
        by_cases c4 : p1 = 3
        · replace hf := ipos c4 hf
          refine lv_tableIn (off := 59) (tgt := 60) hx hb dX11_count_1 (by rw [c4]; decide) (by rw [c4]; decide) (by rw [c4]; rfl) (by decide) ?_
          refine lv_aload_n hx hb dX11_count_60 rfl (lv_at hl 0 rfl) ?_
          refine G_X11_spellings C hP q_389 dX11_count_61 ?_
          refine G_X10_number C hP q_342 dX11_count_64 ?_
          exact retI hQ hf dX11_count_67 hP hD hS
        · replace hf := ineg c4 hf
          by_cases c5 : p1 = 4
          · replace hf := ipos c5 hf
            refine lv_tableIn (off := 67) (tgt := 68) hx hb dX11_count_1 (by rw [c5]; decide) (by rw [c5]; decide) (by rw [c5]; rfl) (by decide) ?_
            refine lv_aload_n hx hb dX11_count_68 rfl (lv_at hl 0 rfl) ?_
            refine G_X11_spellings C hP q_389 dX11_count_69 ?_
            refine G_X10_ran C hP q_344 dX11_count_72 ?_
            exact retI hQ hf dX11_count_75 hP hD hS
          · replace hf := ineg c5 hf
            refine lv_tableOut (tgt := 76) hx hb dX11_count_1 (by have uc1 := lv_neT c1 (a := 0) (by decide); have uc2 := lv_neT c2 (a := 1) (by decide); have uc3 := lv_neT c3 (a := 2) (by decide); have uc4 := lv_neT c4 (a := 3) (by decide); have uc5 := lv_neT c5 (a := 4) (by decide); omega) (by decide) ?_
            refine lv_iconst (v := -1) hx hb dX11_count_76 (by decide) ?_
            exact retI hQ hf dX11_count_77 hP hD hS
