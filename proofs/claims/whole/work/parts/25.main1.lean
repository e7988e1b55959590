theorem mv_X11_refusedBytes : MV yX11_refusedBytes cX11_refusedBytes 2 (some .int) 1 := ⟨q_423, q_0, q_58, q_424, by decide +kernel, by decide +kernel, by decide +kernel⟩
theorem mv_X11_name : MV yX11_name cX11_name 6 (some .int) 2 := ⟨q_418, q_419, q_58, q_420, by decide +kernel, by decide +kernel, by decide +kernel⟩
theorem mv_X11_mendable : MV yX11_mendable cX11_mendable 3 (some .boolean) 2 := ⟨q_463, q_1, q_58, q_464, by decide +kernel, by decide +kernel, by decide +kernel⟩
theorem mv_X11_told : MV yX11_told cX11_told 3 (some .int) 2 := ⟨q_478, q_2, q_58, q_479, by decide +kernel, by decide +kernel, by decide +kernel⟩
theorem mv_X11_tellAnew : MV yX11_tellAnew cX11_tellAnew 4 none 3 := ⟨q_482, q_3, q_58, q_483, by decide +kernel, by decide +kernel, by decide +kernel⟩
theorem mv_X11_mend : MV yX11_mend cX11_mend 5 (some .int) 3 := ⟨q_458, q_459, q_58, q_460, by decide +kernel, by decide +kernel, by decide +kernel⟩
theorem mv_X11_of : MV yX11_of cX11_of 4 (some .int) 2 := ⟨q_497, q_498, q_58, q_499, by decide +kernel, by decide +kernel, by decide +kernel⟩
theorem mv_X11_letter : MV yX11_letter cX11_letter 3 (some .int) 2 := ⟨q_501, q_502, q_58, q_503, by decide +kernel, by decide +kernel, by decide +kernel⟩
theorem mv_X11_feed : MV yX11_feed cX11_feed 2 (some .int) 1 := ⟨q_509, q_510, q_58, q_511, by decide +kernel, by decide +kernel, by decide +kernel⟩
theorem mv_X11_heard : MV yX11_heard cX11_heard 7 (some .long) 3 := ⟨q_655, q_656, q_58, q_657, by decide +kernel, by decide +kernel, by decide +kernel⟩
theorem mv_X11_likely : MV yX11_likely cX11_likely 4 (some .long) 3 := ⟨q_687, q_688, q_58, q_689, by decide +kernel, by decide +kernel, by decide +kernel⟩
theorem mv_X11_likeliest : MV yX11_likeliest cX11_likeliest 3 (some .int) 1 := ⟨q_708, q_709, q_58, q_710, by decide +kernel, by decide +kernel, by decide +kernel⟩
theorem mv_X11_sure : MV yX11_sure cX11_sure 5 (some .int) 2 := ⟨q_716, q_717, q_58, q_718, by decide +kernel, by decide +kernel, by decide +kernel⟩
theorem mv_X11_check : MV yX11_check cX11_check 4 (some .long) 3 := ⟨q_723, q_724, q_58, q_725, by decide +kernel, by decide +kernel, by decide +kernel⟩
theorem mv_X11_again : MV yX11_again cX11_again 4 (some .long) 2 := ⟨q_727, q_728, q_58, q_729, by decide +kernel, by decide +kernel, by decide +kernel⟩
theorem mv_X11_right : MV yX11_right cX11_right 4 (some .long) 3 := ⟨q_745, q_746, q_58, q_747, by decide +kernel, by decide +kernel, by decide +kernel⟩
theorem mv_X11_time : MV yX11_time cX11_time 3 (some .int) 2 := ⟨q_766, q_767, q_58, q_768, by decide +kernel, by decide +kernel, by decide +kernel⟩
theorem mv_X11_leastSaid : MV yX11_leastSaid cX11_leastSaid 3 (some .int) 2 := ⟨q_774, q_775, q_58, q_776, by decide +kernel, by decide +kernel, by decide +kernel⟩
theorem mv_X11_worst : MV yX11_worst cX11_worst 2 (some .int) 1 := ⟨q_786, q_787, q_58, q_788, by decide +kernel, by decide +kernel, by decide +kernel⟩
theorem mv_X11_confused : MV yX11_confused cX11_confused 5 (some .long) 2 := ⟨q_794, q_795, q_58, q_796, by decide +kernel, by decide +kernel, by decide +kernel⟩
theorem mv_X11_nearest : MV yX11_nearest cX11_nearest 2 (some .int) 1 := ⟨q_806, q_807, q_58, q_808, by decide +kernel, by decide +kernel, by decide +kernel⟩
theorem mv_X11_pairs : MV yX11_pairs cX11_pairs 1 (some .int) 0 := ⟨q_817, q_818, q_58, q_819, by decide +kernel, by decide +kernel, by decide +kernel⟩
theorem mv_X11_sums : MV yX11_sums cX11_sums 4 (some .long) 3 := ⟨q_825, q_826, q_58, q_827, by decide +kernel, by decide +kernel, by decide +kernel⟩
theorem mv_X11_stop : MV yX11_stop cX11_stop 3 (some .int) 2 := ⟨q_842, q_843, q_58, q_844, by decide +kernel, by decide +kernel, by decide +kernel⟩
theorem dX11_refusedBytes_0 : decode cX11_refusedBytes 0 = .ok (.iload_n 1, 1) := by decide +kernel
theorem dX11_refusedBytes_1 : decode cX11_refusedBytes 1 = .ok (.invokestatic 357, 3) := by decide +kernel
theorem dX11_refusedBytes_4 : decode cX11_refusedBytes 4 = .ok (.ifCond .ne 5, 3) := by decide +kernel
theorem dX11_refusedBytes_7 : decode cX11_refusedBytes 7 = .ok (.iconst (-1), 1) := by decide +kernel
theorem dX11_refusedBytes_8 : decode cX11_refusedBytes 8 = .ok (.ireturn, 1) := by decide +kernel
theorem dX11_refusedBytes_9 : decode cX11_refusedBytes 9 = .ok (.aload_n 0, 1) := by decide +kernel
theorem dX11_refusedBytes_10 : decode cX11_refusedBytes 10 = .ok (.getfield 81, 3) := by decide +kernel
theorem dX11_refusedBytes_13 : decode cX11_refusedBytes 13 = .ok (.iload_n 1, 1) := by decide +kernel
theorem dX11_refusedBytes_14 : decode cX11_refusedBytes 14 = .ok (.aaload, 1) := by decide +kernel
theorem dX11_refusedBytes_15 : decode cX11_refusedBytes 15 = .ok (.invokevirtual 375, 3) := by decide +kernel
theorem dX11_refusedBytes_18 : decode cX11_refusedBytes 18 = .ok (.ifCond .eq 6, 3) := by decide +kernel
theorem dX11_refusedBytes_21 : decode cX11_refusedBytes 21 = .ok (.bipush (-11), 2) := by decide +kernel
theorem dX11_refusedBytes_23 : decode cX11_refusedBytes 23 = .ok (.ireturn, 1) := by decide +kernel
theorem dX11_refusedBytes_24 : decode cX11_refusedBytes 24 = .ok (.aload_n 0, 1) := by decide +kernel
theorem dX11_refusedBytes_25 : decode cX11_refusedBytes 25 = .ok (.getfield 81, 3) := by decide +kernel
theorem dX11_refusedBytes_28 : decode cX11_refusedBytes 28 = .ok (.iload_n 1, 1) := by decide +kernel
theorem dX11_refusedBytes_29 : decode cX11_refusedBytes 29 = .ok (.aaload, 1) := by decide +kernel
theorem dX11_refusedBytes_30 : decode cX11_refusedBytes 30 = .ok (.invokevirtual 379, 3) := by decide +kernel
theorem dX11_refusedBytes_33 : decode cX11_refusedBytes 33 = .ok (.ifCond .eq 19, 3) := by decide +kernel
theorem dX11_refusedBytes_36 : decode cX11_refusedBytes 36 = .ok (.aload_n 0, 1) := by decide +kernel
theorem dX11_refusedBytes_37 : decode cX11_refusedBytes 37 = .ok (.getfield 81, 3) := by decide +kernel
theorem dX11_refusedBytes_40 : decode cX11_refusedBytes 40 = .ok (.iload_n 1, 1) := by decide +kernel
theorem dX11_refusedBytes_41 : decode cX11_refusedBytes 41 = .ok (.aaload, 1) := by decide +kernel
theorem dX11_refusedBytes_42 : decode cX11_refusedBytes 42 = .ok (.getfield 382, 3) := by decide +kernel
theorem dX11_refusedBytes_45 : decode cX11_refusedBytes 45 = .ok (.ifCond .ne 7, 3) := by decide +kernel
theorem dX11_refusedBytes_48 : decode cX11_refusedBytes 48 = .ok (.iconst 0, 1) := by decide +kernel
theorem dX11_refusedBytes_49 : decode cX11_refusedBytes 49 = .ok (.goto 5, 3) := by decide +kernel
theorem dX11_refusedBytes_52 : decode cX11_refusedBytes 52 = .ok (.bipush (-12), 2) := by decide +kernel
theorem dX11_refusedBytes_54 : decode cX11_refusedBytes 54 = .ok (.ireturn, 1) := by decide +kernel
def f_X11_refusedBytes (σ : St) (p1 : Int32) : Option (Int32 × St) := bnd1 (f_X11_shelfThere p1) (fun r2 => if r2 = 0 then (some ((-1 : Int32), σ)) else (chk (p1 < 0 ∨ 6 ≤ p1.toNatClampNeg) (bnd2 (f_X8_isEmpty σ ((p1.toNatClampNeg))) (fun r6 σ7 => if r6 = 0 then (chk (p1 < 0 ∨ 6 ≤ p1.toNatClampNeg) (bnd2 (f_X8_isRow σ7 ((p1.toNatClampNeg))) (fun r11 σ12 => if r11 = 0 then (some ((-12 : Int32), σ12)) else (chk (p1 < 0 ∨ 6 ≤ p1.toNatClampNeg) (if σ12.1 402 (p1.toNatClampNeg) = 0 then (some ((0 : Int32), σ12)) else (some ((-12 : Int32), σ12))))))) else (some ((-11 : Int32), σ7))))))
set_option maxHeartbeats 4000000 in
set_option maxRecDepth 100000 in
theorem c_X11_refusedBytes {l : Launch} {g : va_G} {ts : ClassId × ClassId × ClassId} {a : Nat → Nat} {σ : St} {p1 : Int32} {r : Int32} {σ' : St} (hf : f_X11_refusedBytes σ p1 = some (r, σ')) : ConI l g ts (WC ts a) yX11_refusedBytes cX11_refusedBytes 2 (some .int) (rk 1 20) σ [.ref (a 0), .int p1] r σ' := by
  refine ConI_mk .int rfl rfl rfl rfl (by decide) (Nat.le_of_ble_eq_true rfl) ?_
  intro p e s m below meth c A Q ls C hQ hP hD hS hl
  have C : FX p s m _ meth c RX11 cX11_refusedBytes 2 g ts A := C
  have hx := C.1
  have hb := C.2.1
  have hown := C.2.2.2.1
  have hts := C.2.2.2.2.1
  have hl : lv_has ls 2 [(0, .ref (a 0)), (1, .int p1)] := hl
  rw [f_X11_refusedBytes] at hf
  refine lv_iload_n hx hb dX11_refusedBytes_0 rfl (lv_at hl 1 rfl) ?_
  obtain ⟨r2, h1, hf⟩ := bnd1_some hf
  refine tI [] C hP hD hS (c_X11_shelfThere h1) ms_X11_shelfThere q_425 dX11_refusedBytes_1 ⟨Nat.le_of_ble_eq_true rfl, Nat.le_of_ble_eq_true rfl⟩ ⟨Nat.zero_le _, Nat.zero_le _⟩ rfl rfl (Nat.le_of_ble_eq_true rfl) hl.1 (fun H locs hP hD hS => ?_)
  refine lv_if_ne (tgt := 9) hx hb dX11_refusedBytes_4 (by decide) (fun c3 => ?_) (fun c3 => ?_)
  · replace hf := ineg c3 hf
    refine lv_aload_n hx hb dX11_refusedBytes_9 rfl (lv_at hl 0 rfl) ?_
    refine G_X11_shelves C hP q_390 dX11_refusedBytes_10 ?_
    refine lv_iload_n hx hb dX11_refusedBytes_13 rfl (lv_at hl 1 rfl) ?_
    obtain ⟨h4, hf⟩ := chk_some hf
    refine AL_shelves C hP h4 dX11_refusedBytes_14 ?_
    obtain ⟨r6, σ7, h5, hf⟩ := bnd2_some hf
    refine vI [] C hP hD hS (c_X8_isEmpty (Nat.not_le.mp fun q => h4 (Or.inr q)) h5) mv_X8_isEmpty q_428 (rv_X8 (Nat.not_le.mp fun q => h4 (Or.inr q))) dX11_refusedBytes_15 ⟨Nat.le_of_ble_eq_true rfl, Nat.le_of_ble_eq_true rfl⟩ ⟨Nat.zero_le _, Nat.zero_le _⟩ rfl rfl (Nat.le_of_ble_eq_true rfl) hl.1 (fun H locs hP hD hS => ?_)
    refine lv_if_eq (tgt := 24) hx hb dX11_refusedBytes_18 (by decide) (fun c8 => ?_) (fun c8 => ?_)
    · replace hf := ipos c8 hf
      refine lv_aload_n hx hb dX11_refusedBytes_24 rfl (lv_at hl 0 rfl) ?_
      refine G_X11_shelves C hP q_390 dX11_refusedBytes_25 ?_
      refine lv_iload_n hx hb dX11_refusedBytes_28 rfl (lv_at hl 1 rfl) ?_
      obtain ⟨h9, hf⟩ := chk_some hf
      refine AL_shelves C hP h9 dX11_refusedBytes_29 ?_
      obtain ⟨r11, σ12, h10, hf⟩ := bnd2_some hf
      refine vI [] C hP hD hS (c_X8_isRow (Nat.not_le.mp fun q => h9 (Or.inr q)) h10) mv_X8_isRow q_432 (rv_X8 (Nat.not_le.mp fun q => h9 (Or.inr q))) dX11_refusedBytes_30 ⟨Nat.le_of_ble_eq_true rfl, Nat.le_of_ble_eq_true rfl⟩ ⟨Nat.zero_le _, Nat.zero_le _⟩ rfl rfl (Nat.le_of_ble_eq_true rfl) hl.1 (fun H locs hP hD hS => ?_)
      refine lv_if_eq (tgt := 52) hx hb dX11_refusedBytes_33 (by decide) (fun c13 => ?_) (fun c13 => ?_)
      · replace hf := ipos c13 hf
        refine lv_bipush (v := -12) hx hb dX11_refusedBytes_52 (by decide) ?_
        exact retI hQ hf dX11_refusedBytes_54 hP hD hS
      · replace hf := ineg c13 hf
        refine lv_aload_n hx hb dX11_refusedBytes_36 rfl (lv_at hl 0 rfl) ?_
        refine G_X11_shelves C hP q_390 dX11_refusedBytes_37 ?_
        refine lv_iload_n hx hb dX11_refusedBytes_40 rfl (lv_at hl 1 rfl) ?_
        obtain ⟨h14, hf⟩ := chk_some hf
        refine AL_shelves C hP h14 dX11_refusedBytes_41 ?_
        refine G_X8_sort (Nat.not_le.mp fun q => h14 (Or.inr q)) C hP q_366 dX11_refusedBytes_42 ?_
        refine lv_if_ne (tgt := 52) hx hb dX11_refusedBytes_45 (by decide) (fun c15 => ?_) (fun c15 => ?_)
        · replace hf := ineg c15 hf
          refine lv_bipush (v := -12) hx hb dX11_refusedBytes_52 (by decide) ?_
          exact retI hQ hf dX11_refusedBytes_54 hP hD hS
        · replace hf := ipos c15 hf
          refine lv_iconst (v := 0) hx hb dX11_refusedBytes_48 (by decide) ?_
          refine lv_goto (tgt := 54) hx hb dX11_refusedBytes_49 (by decide) ?_
          exact retI hQ hf dX11_refusedBytes_54 hP hD hS
    · replace hf := ineg c8 hf
      refine lv_bipush (v := -11) hx hb dX11_refusedBytes_21 (by decide) ?_
      exact retI hQ hf dX11_refusedBytes_23 hP hD hS
  · replace hf := ipos c3 hf
    refine lv_iconst (v := -1) hx hb dX11_refusedBytes_7 (by decide) ?_
    exact retI hQ hf dX11_refusedBytes_8 hP hD hS
theorem dX11_name_0 : decode cX11_name 0 = .ok (.iload_n 2, 1) := by decide +kernel
theorem dX11_name_1 : decode cX11_name 1 = .ok (.bipush 10, 2) := by decide +kernel
theorem dX11_name_3 : decode cX11_name 3 = .ok (.irem, 1) := by decide +kernel
theorem dX11_name_4 : decode cX11_name 4 = .ok (.istore_n 3, 1) := by decide +kernel
theorem dX11_name_5 : decode cX11_name 5 = .ok (.iload_n 2, 1) := by decide +kernel
theorem dX11_name_6 : decode cX11_name 6 = .ok (.ifCond .lt 14, 3) := by decide +kernel
theorem dX11_name_9 : decode cX11_name 9 = .ok (.iload_n 3, 1) := by decide +kernel
theorem dX11_name_10 : decode cX11_name 10 = .ok (.iconst 1, 1) := by decide +kernel
theorem dX11_name_11 : decode cX11_name 11 = .ok (.if_icmp .lt 9, 3) := by decide +kernel
theorem dX11_name_14 : decode cX11_name 14 = .ok (.iload_n 3, 1) := by decide +kernel
theorem dX11_name_15 : decode cX11_name 15 = .ok (.bipush 6, 2) := by decide +kernel
theorem dX11_name_17 : decode cX11_name 17 = .ok (.if_icmp .le 5, 3) := by decide +kernel
theorem dX11_name_20 : decode cX11_name 20 = .ok (.iconst (-1), 1) := by decide +kernel
theorem dX11_name_21 : decode cX11_name 21 = .ok (.ireturn, 1) := by decide +kernel
theorem dX11_name_22 : decode cX11_name 22 = .ok (.aload_n 0, 1) := by decide +kernel
theorem dX11_name_23 : decode cX11_name 23 = .ok (.iload_n 1, 1) := by decide +kernel
theorem dX11_name_24 : decode cX11_name 24 = .ok (.invokevirtual 86, 3) := by decide +kernel
theorem dX11_name_27 : decode cX11_name 27 = .ok (.istore 4, 2) := by decide +kernel
theorem dX11_name_29 : decode cX11_name 29 = .ok (.iload 4, 2) := by decide +kernel
theorem dX11_name_31 : decode cX11_name 31 = .ok (.ifCond .eq 6, 3) := by decide +kernel
theorem dX11_name_34 : decode cX11_name 34 = .ok (.iload 4, 2) := by decide +kernel
theorem dX11_name_36 : decode cX11_name 36 = .ok (.ireturn, 1) := by decide +kernel
theorem dX11_name_37 : decode cX11_name 37 = .ok (.iload_n 2, 1) := by decide +kernel
theorem dX11_name_38 : decode cX11_name 38 = .ok (.bipush 10, 2) := by decide +kernel
theorem dX11_name_40 : decode cX11_name 40 = .ok (.idiv, 1) := by decide +kernel
theorem dX11_name_41 : decode cX11_name 41 = .ok (.istore 5, 2) := by decide +kernel
theorem dX11_name_43 : decode cX11_name 43 = .ok (.aload_n 0, 1) := by decide +kernel
theorem dX11_name_44 : decode cX11_name 44 = .ok (.getfield 81, 3) := by decide +kernel
theorem dX11_name_47 : decode cX11_name 47 = .ok (.iload_n 1, 1) := by decide +kernel
theorem dX11_name_48 : decode cX11_name 48 = .ok (.aaload, 1) := by decide +kernel
theorem dX11_name_49 : decode cX11_name 49 = .ok (.iload 5, 2) := by decide +kernel
theorem dX11_name_51 : decode cX11_name 51 = .ok (.iload_n 3, 1) := by decide +kernel
theorem dX11_name_52 : decode cX11_name 52 = .ok (.invokevirtual 90, 3) := by decide +kernel
theorem dX11_name_55 : decode cX11_name 55 = .ok (.ifCond .ne 5, 3) := by decide +kernel
theorem dX11_name_58 : decode cX11_name 58 = .ok (.iconst (-1), 1) := by decide +kernel
theorem dX11_name_59 : decode cX11_name 59 = .ok (.ireturn, 1) := by decide +kernel
theorem dX11_name_60 : decode cX11_name 60 = .ok (.aload_n 0, 1) := by decide +kernel
theorem dX11_name_61 : decode cX11_name 61 = .ok (.getfield 19, 3) := by decide +kernel
theorem dX11_name_64 : decode cX11_name 64 = .ok (.getfield 94, 3) := by decide +kernel
theorem dX11_name_67 : decode cX11_name 67 = .ok (.bipush 10, 2) := by decide +kernel
theorem dX11_name_69 : decode cX11_name 69 = .ok (.if_icmp .lt 8, 3) := by decide +kernel
theorem dX11_name_72 : decode cX11_name 72 = .ok (.bipush (-3), 2) := by decide +kernel
theorem dX11_name_74 : decode cX11_name 74 = .ok (.goto 19, 3) := by decide +kernel
theorem dX11_name_77 : decode cX11_name 77 = .ok (.aload_n 0, 1) := by decide +kernel
theorem dX11_name_78 : decode cX11_name 78 = .ok (.getfield 19, 3) := by decide +kernel
theorem dX11_name_81 : decode cX11_name 81 = .ok (.aload_n 0, 1) := by decide +kernel
theorem dX11_name_82 : decode cX11_name 82 = .ok (.getfield 81, 3) := by decide +kernel
theorem dX11_name_85 : decode cX11_name 85 = .ok (.iload_n 1, 1) := by decide +kernel
theorem dX11_name_86 : decode cX11_name 86 = .ok (.aaload, 1) := by decide +kernel
theorem dX11_name_87 : decode cX11_name 87 = .ok (.iload 5, 2) := by decide +kernel
theorem dX11_name_89 : decode cX11_name 89 = .ok (.iload_n 3, 1) := by decide +kernel
theorem dX11_name_90 : decode cX11_name 90 = .ok (.invokevirtual 98, 3) := by decide +kernel
theorem dX11_name_93 : decode cX11_name 93 = .ok (.ireturn, 1) := by decide +kernel
def f_X11_name (σ : St) (p1 : Int32) (p2 : Int32) : Option (Int32 × St) := bnd (p2 - p2 / (10 : Int32) * (10 : Int32)) (fun v1 => if p2 < 0 then (some ((-1 : Int32), σ)) else (if v1 < (1 : Int32) then (some ((-1 : Int32), σ)) else (if v1 ≤ (6 : Int32) then (bnd2 (f_X11_refusedBytes σ p1) (fun r6 σ7 => if r6 = 0 then (bnd (p2 / (10 : Int32)) (fun v9 => chk (p1 < 0 ∨ 6 ≤ p1.toNatClampNeg) (bnd2 (f_X8_spells σ7 ((p1.toNatClampNeg)) v9 v1) (fun r12 σ13 => if r12 = 0 then (some ((-1 : Int32), σ13)) else (if σ13.1 303 0 < (10 : Int32) then (chk (p1 < 0 ∨ 6 ≤ p1.toNatClampNeg) (bnd2 (f_X6_enter σ13 ((p1.toNatClampNeg)) v9 v1) (fun r18 σ19 => some (r18, σ19)))) else (some ((-3 : Int32), σ13))))))) else (some (r6, σ7)))) else (some ((-1 : Int32), σ)))))
set_option maxHeartbeats 4000000 in
set_option maxRecDepth 100000 in
theorem c_X11_name {l : Launch} {g : va_G} {ts : ClassId × ClassId × ClassId} {a : Nat → Nat} {σ : St} {p1 : Int32} {p2 : Int32} {r : Int32} {σ' : St} (hf : f_X11_name σ p1 p2 = some (r, σ')) : ConI l g ts (WC ts a) yX11_name cX11_name 6 (some .int) (rk 3 68) σ [.ref (a 0), .int p1, .int p2] r σ' := by
  refine ConI_mk .int rfl rfl rfl rfl (by decide) (Nat.le_of_ble_eq_true rfl) ?_
  intro p e s m below meth c A Q ls C hQ hP hD hS hl
  have C : FX p s m _ meth c RX11 cX11_name 6 g ts A := C
  have hx := C.1
  have hb := C.2.1
  have hown := C.2.2.2.1
  have hts := C.2.2.2.2.1
  have hl : lv_has ls 6 [(0, .ref (a 0)), (1, .int p1), (2, .int p2)] := hl
  rw [f_X11_name] at hf
  refine lv_iload_n hx hb dX11_name_0 rfl (lv_at hl 2 rfl) ?_
  refine lv_bipush (v := 10) hx hb dX11_name_1 (by decide) ?_
  refine lv_irem hx hb dX11_name_3 (by decide) ?_
  refine lv_topi (fun v1 ev1 => ?_)
  replace hf := bnd_at ev1 hf
  refine lv_istore_n (lv' := [(3, .int v1), (0, .ref (a 0)), (1, .int p1), (2, .int p2)]) hx hb dX11_name_4 rfl hl (by decide) rfl (fun ls hl => ?_)
  refine lv_iload_n hx hb dX11_name_5 rfl (lv_at hl 3 rfl) ?_
  refine lv_if_lt (tgt := 20) hx hb dX11_name_6 (by decide) (fun c2 => ?_) (fun c2 => ?_)
  · replace hf := ipos c2 hf
    refine lv_iconst (v := -1) hx hb dX11_name_20 (by decide) ?_
    exact retI hQ hf dX11_name_21 hP hD hS
  · replace hf := ineg c2 hf
    refine lv_iload_n hx hb dX11_name_9 rfl (lv_at hl 0 rfl) ?_
    refine lv_iconst (v := 1) hx hb dX11_name_10 (by decide) ?_
    refine lv_icmp_lt (tgt := 20) hx hb dX11_name_11 (by decide) (fun c3 => ?_) (fun c3 => ?_)
    · replace hf := ipos c3 hf
      refine lv_iconst (v := -1) hx hb dX11_name_20 (by decide) ?_
      exact retI hQ hf dX11_name_21 hP hD hS
    · replace hf := ineg c3 hf
      refine lv_iload_n hx hb dX11_name_14 rfl (lv_at hl 0 rfl) ?_
      refine lv_bipush (v := 6) hx hb dX11_name_15 (by decide) ?_
      refine lv_icmp_le (tgt := 22) hx hb dX11_name_17 (by decide) (fun c4 => ?_) (fun c4 => ?_)
      · replace hf := ipos c4 hf
        refine lv_aload_n hx hb dX11_name_22 rfl (lv_at hl 1 rfl) ?_
        refine lv_iload_n hx hb dX11_name_23 rfl (lv_at hl 2 rfl) ?_
        obtain ⟨r6, σ7, h5, hf⟩ := bnd2_some hf
        refine vI [] C hP hD hS (c_X11_refusedBytes h5) mv_X11_refusedBytes q_421 rv_X11 dX11_name_24 ⟨Nat.le_of_ble_eq_true rfl, Nat.le_of_ble_eq_true rfl⟩ ⟨Nat.zero_le _, Nat.zero_le _⟩ rfl rfl (Nat.le_of_ble_eq_true rfl) hl.1 (fun H locs hP hD hS => ?_)
        refine lv_istore (lv' := [(4, .int r6), (3, .int v1), (0, .ref (a 0)), (1, .int p1), (2, .int p2)]) hx hb dX11_name_27 hl (by decide) rfl (fun ls hl => ?_)
        refine lv_iload hx hb dX11_name_29 (lv_at hl 0 rfl) ?_
        refine lv_if_eq (tgt := 37) hx hb dX11_name_31 (by decide) (fun c8 => ?_) (fun c8 => ?_)
        · replace hf := ipos c8 hf
          refine lv_iload_n hx hb dX11_name_37 rfl (lv_at hl 4 rfl) ?_
          refine lv_bipush (v := 10) hx hb dX11_name_38 (by decide) ?_
          refine lv_idiv hx hb dX11_name_40 (by decide) ?_
          refine lv_topi (fun v9 ev9 => ?_)
          replace hf := bnd_at ev9 hf
          refine lv_istore (lv' := [(5, .int v9), (4, .int r6), (3, .int v1), (0, .ref (a 0)), (1, .int p1), (2, .int p2)]) hx hb dX11_name_41 hl (by decide) rfl (fun ls hl => ?_)
          refine lv_aload_n hx hb dX11_name_43 rfl (lv_at hl 3 rfl) ?_
          refine G_X11_shelves C hP q_390 dX11_name_44 ?_
          refine lv_iload_n hx hb dX11_name_47 rfl (lv_at hl 4 rfl) ?_
          obtain ⟨h10, hf⟩ := chk_some hf
          refine AL_shelves C hP h10 dX11_name_48 ?_
          refine lv_iload hx hb dX11_name_49 (lv_at hl 0 rfl) ?_
          refine lv_iload_n hx hb dX11_name_51 rfl (lv_at hl 2 rfl) ?_
          obtain ⟨r12, σ13, h11, hf⟩ := bnd2_some hf
          refine vI [] C hP hD hS (c_X8_spells (Nat.not_le.mp fun q => h10 (Or.inr q)) h11) mv_X8_spells q_436 (rv_X8 (Nat.not_le.mp fun q => h10 (Or.inr q))) dX11_name_52 ⟨Nat.le_of_ble_eq_true rfl, Nat.le_of_ble_eq_true rfl⟩ ⟨Nat.zero_le _, Nat.zero_le _⟩ rfl rfl (Nat.le_of_ble_eq_true rfl) hl.1 (fun H locs hP hD hS => ?_)
          refine lv_if_ne (tgt := 60) hx hb dX11_name_55 (by decide) (fun c14 => ?_) (fun c14 => ?_)
          · replace hf := ineg c14 hf
            refine lv_aload_n hx hb dX11_name_60 rfl (lv_at hl 3 rfl) ?_
            refine G_X11_names C hP q_381 dX11_name_61 ?_
            refine G_X6_number C hP q_166 dX11_name_64 ?_
            refine lv_bipush (v := 10) hx hb dX11_name_67 (by decide) ?_
            refine lv_icmp_lt (tgt := 77) hx hb dX11_name_69 (by decide) (fun c15 => ?_) (fun c15 => ?_)
            · replace hf := ipos c15 hf
              refine lv_aload_n hx hb dX11_name_77 rfl (lv_at hl 3 rfl) ?_
              refine G_X11_names C hP q_381 dX11_name_78 ?_
              refine lv_aload_n hx hb dX11_name_81 rfl (lv_at hl 3 rfl) ?_
              refine G_X11_shelves C hP q_390 dX11_name_82 ?_
              refine lv_iload_n hx hb dX11_name_85 rfl (lv_at hl 4 rfl) ?_
              obtain ⟨h16, hf⟩ := chk_some hf
              refine AL_shelves C hP h16 dX11_name_86 ?_
              refine lv_iload hx hb dX11_name_87 (lv_at hl 0 rfl) ?_
              refine lv_iload_n hx hb dX11_name_89 rfl (lv_at hl 2 rfl) ?_
              obtain ⟨r18, σ19, h17, hf⟩ := bnd2_some hf
              refine vI [] C hP hD hS (c_X6_enter (Nat.not_le.mp fun q => h16 (Or.inr q)) h17) mv_X6_enter q_452 rv_X6 dX11_name_90 ⟨Nat.le_of_ble_eq_true rfl, Nat.le_of_ble_eq_true rfl⟩ ⟨Nat.zero_le _, Nat.zero_le _⟩ rfl rfl (Nat.le_of_ble_eq_true rfl) hl.1 (fun H locs hP hD hS => ?_)
              exact retI hQ hf dX11_name_93 hP hD hS
            · replace hf := ineg c15 hf
              refine lv_bipush (v := -3) hx hb dX11_name_72 (by decide) ?_
              refine lv_goto (tgt := 93) hx hb dX11_name_74 (by decide) ?_
              exact retI hQ hf dX11_name_93 hP hD hS
          · replace hf := ipos c14 hf
            refine lv_iconst (v := -1) hx hb dX11_name_58 (by decide) ?_
            exact retI hQ hf dX11_name_59 hP hD hS
        · replace hf := ineg c8 hf
          refine lv_iload hx hb dX11_name_34 (lv_at hl 0 rfl) ?_
          exact retI hQ hf dX11_name_36 hP hD hS
      · replace hf := ineg c4 hf
        refine lv_iconst (v := -1) hx hb dX11_name_20 (by decide) ?_
        exact retI hQ hf dX11_name_21 hP hD hS
theorem dX11_mendable_0 : decode cX11_mendable 0 = .ok (.iload_n 2, 1) := by decide +kernel
theorem dX11_mendable_1 : decode cX11_mendable 1 = .ok (.tableswitch 84 0 4 #[35, 44, 68, 68, 74], 35) := by decide +kernel
theorem dX11_mendable_36 : decode cX11_mendable 36 = .ok (.aload_n 0, 1) := by decide +kernel
theorem dX11_mendable_37 : decode cX11_mendable 37 = .ok (.getfield 19, 3) := by decide +kernel
theorem dX11_mendable_40 : decode cX11_mendable 40 = .ok (.iload_n 1, 1) := by decide +kernel
theorem dX11_mendable_41 : decode cX11_mendable 41 = .ok (.invokevirtual 119, 3) := by decide +kernel
theorem dX11_mendable_44 : decode cX11_mendable 44 = .ok (.ireturn, 1) := by decide +kernel
theorem dX11_mendable_45 : decode cX11_mendable 45 = .ok (.iload_n 1, 1) := by decide +kernel
theorem dX11_mendable_46 : decode cX11_mendable 46 = .ok (.invokestatic 127, 3) := by decide +kernel
theorem dX11_mendable_49 : decode cX11_mendable 49 = .ok (.ifCond .eq 18, 3) := by decide +kernel
theorem dX11_mendable_52 : decode cX11_mendable 52 = .ok (.iload_n 1, 1) := by decide +kernel
theorem dX11_mendable_53 : decode cX11_mendable 53 = .ok (.bipush 100, 2) := by decide +kernel
theorem dX11_mendable_55 : decode cX11_mendable 55 = .ok (.idiv, 1) := by decide +kernel
theorem dX11_mendable_56 : decode cX11_mendable 56 = .ok (.iload_n 1, 1) := by decide +kernel
theorem dX11_mendable_57 : decode cX11_mendable 57 = .ok (.bipush 100, 2) := by decide +kernel
theorem dX11_mendable_59 : decode cX11_mendable 59 = .ok (.irem, 1) := by decide +kernel
theorem dX11_mendable_60 : decode cX11_mendable 60 = .ok (.if_icmp .eq 7, 3) := by decide +kernel
theorem dX11_mendable_63 : decode cX11_mendable 63 = .ok (.iconst 1, 1) := by decide +kernel
theorem dX11_mendable_64 : decode cX11_mendable 64 = .ok (.goto 4, 3) := by decide +kernel
theorem dX11_mendable_67 : decode cX11_mendable 67 = .ok (.iconst 0, 1) := by decide +kernel
theorem dX11_mendable_68 : decode cX11_mendable 68 = .ok (.ireturn, 1) := by decide +kernel
theorem dX11_mendable_69 : decode cX11_mendable 69 = .ok (.iload_n 1, 1) := by decide +kernel
theorem dX11_mendable_70 : decode cX11_mendable 70 = .ok (.i2l, 1) := by decide +kernel
theorem dX11_mendable_71 : decode cX11_mendable 71 = .ok (.invokestatic 400, 3) := by decide +kernel
theorem dX11_mendable_74 : decode cX11_mendable 74 = .ok (.ireturn, 1) := by decide +kernel
theorem dX11_mendable_75 : decode cX11_mendable 75 = .ok (.iload_n 1, 1) := by decide +kernel
theorem dX11_mendable_76 : decode cX11_mendable 76 = .ok (.ifCond .ne 7, 3) := by decide +kernel
theorem dX11_mendable_79 : decode cX11_mendable 79 = .ok (.iconst 1, 1) := by decide +kernel
theorem dX11_mendable_80 : decode cX11_mendable 80 = .ok (.goto 4, 3) := by decide +kernel
theorem dX11_mendable_83 : decode cX11_mendable 83 = .ok (.iconst 0, 1) := by decide +kernel
theorem dX11_mendable_84 : decode cX11_mendable 84 = .ok (.ireturn, 1) := by decide +kernel
theorem dX11_mendable_85 : decode cX11_mendable 85 = .ok (.iconst 0, 1) := by decide +kernel
theorem dX11_mendable_86 : decode cX11_mendable 86 = .ok (.ireturn, 1) := by decide +kernel
def f_X11_mendable0 (σ : St) (p1 : Int32) (p2 : Int32) : Option (Int32 × St) := if p2 = 0 then (bnd2 (f_X6_has σ p1) (fun r3 σ4 => some (r3, σ4))) else (if p2 = 1 then (bnd1 (f_X11_twoLetters p1) (fun r7 => if r7 = 0 then (some ((0 : Int32), σ)) else (if p1 / (100 : Int32) = p1 - p1 / (100 : Int32) * (100 : Int32) then (some ((0 : Int32), σ)) else (some ((1 : Int32), σ))))) else (if p2 = 2 then (bnd1 (f_X11_isLetter ((p1 : Int32).toInt64)) (fun r12 => some (r12, σ))) else (if p2 = 3 then (bnd1 (f_X11_isLetter ((p1 : Int32).toInt64)) (fun r15 => some (r15, σ))) else (if p2 = 4 then (if p1 = 0 then (some ((1 : Int32), σ)) else (some ((0 : Int32), σ))) else (some ((0 : Int32), σ))))))
def f_X11_mendable (σ : St) (p1 : Int32) (p2 : Int32) : Option (Int32 × St) := chkB (f_X11_mendable0 σ p1 p2)
set_option maxHeartbeats 4000000 in
set_option maxRecDepth 100000 in
theorem c_X11_mendable {l : Launch} {g : va_G} {ts : ClassId × ClassId × ClassId} {a : Nat → Nat} {σ : St} {p1 : Int32} {p2 : Int32} {r : Int32} {σ' : St} (hf : f_X11_mendable σ p1 p2 = some (r, σ')) : ConI l g ts (WC ts a) yX11_mendable cX11_mendable 3 (some .boolean) (rk 2 41) σ [.ref (a 0), .int p1, .int p2] r σ' := by
  rw [f_X11_mendable] at hf
  obtain ⟨hf, hn⟩ := chkB_some hf
  refine ConI_mk .boolean rfl hn rfl rfl (by decide) (Nat.le_of_ble_eq_true rfl) ?_
  intro p e s m below meth c A Q ls C hQ hP hD hS hl
  have C : FX p s m _ meth c RX11 cX11_mendable 3 g ts A := C
  have hx := C.1
  have hb := C.2.1
  have hown := C.2.2.2.1
  have hts := C.2.2.2.2.1
  have hl : lv_has ls 3 [(0, .ref (a 0)), (1, .int p1), (2, .int p2)] := hl
  rw [f_X11_mendable0] at hf
  refine lv_iload_n hx hb dX11_mendable_0 rfl (lv_at hl 2 rfl) ?_
  by_cases c1 : p2 = 0
  · replace hf := ipos c1 hf
    refine lv_tableIn (off := 35) (tgt := 36) hx hb dX11_mendable_1 (by rw [c1]; decide) (by rw [c1]; decide) (by rw [c1]; rfl) (by decide) ?_
    refine lv_aload_n hx hb dX11_mendable_36 rfl (lv_at hl 0 rfl) ?_
    refine G_X11_names C hP q_381 dX11_mendable_37 ?_
    refine lv_iload_n hx hb dX11_mendable_40 rfl (lv_at hl 1 rfl) ?_
    obtain ⟨r3, σ4, h2, hf⟩ := bnd2_some hf
    refine vI [] C hP hD hS (c_X6_has h2) mv_X6_has q_465 rv_X6 dX11_mendable_41 ⟨Nat.le_of_ble_eq_true rfl, Nat.le_of_ble_eq_true rfl⟩ ⟨Nat.zero_le _, Nat.zero_le _⟩ rfl rfl (Nat.le_of_ble_eq_true rfl) hl.1 (fun H locs hP hD hS => ?_)
    exact retI hQ hf dX11_mendable_44 hP hD hS
  · replace hf := ineg c1 hf
    by_cases c5 : p2 = 1
    · replace hf := ipos c5 hf
      refine lv_tableIn (off := 44) (tgt := 45) hx hb dX11_mendable_1 (by rw [c5]; decide) (by rw [c5]; decide) (by rw [c5]; rfl) (by decide) ?_
      refine lv_iload_n hx hb dX11_mendable_45 rfl (lv_at hl 1 rfl) ?_
      obtain ⟨r7, h6, hf⟩ := bnd1_some hf
      refine tI [] C hP hD hS (c_X11_twoLetters h6) ms_X11_twoLetters q_469 dX11_mendable_46 ⟨Nat.le_of_ble_eq_true rfl, Nat.le_of_ble_eq_true rfl⟩ ⟨Nat.zero_le _, Nat.zero_le _⟩ rfl rfl (Nat.le_of_ble_eq_true rfl) hl.1 (fun H locs hP hD hS => ?_)
      refine lv_if_eq (tgt := 67) hx hb dX11_mendable_49 (by decide) (fun c8 => ?_) (fun c8 => ?_)
      · replace hf := ipos c8 hf
        refine lv_iconst (v := 0) hx hb dX11_mendable_67 (by decide) ?_
        exact retI hQ hf dX11_mendable_68 hP hD hS
      · replace hf := ineg c8 hf
        refine lv_iload_n hx hb dX11_mendable_52 rfl (lv_at hl 1 rfl) ?_
        refine lv_bipush (v := 100) hx hb dX11_mendable_53 (by decide) ?_
        refine lv_idiv hx hb dX11_mendable_55 (by decide) ?_
        refine lv_iload_n hx hb dX11_mendable_56 rfl (lv_at hl 1 rfl) ?_
        refine lv_bipush (v := 100) hx hb dX11_mendable_57 (by decide) ?_
        refine lv_irem hx hb dX11_mendable_59 (by decide) ?_
        refine lv_icmp_eq (tgt := 67) hx hb dX11_mendable_60 (by decide) (fun c9 => ?_) (fun c9 => ?_)
        · replace hf := ipos c9 hf
          refine lv_iconst (v := 0) hx hb dX11_mendable_67 (by decide) ?_
          exact retI hQ hf dX11_mendable_68 hP hD hS
        · replace hf := ineg c9 hf
          refine lv_iconst (v := 1) hx hb dX11_mendable_63 (by decide) ?_
          refine lv_goto (tgt := 68) hx hb dX11_mendable_64 (by decide) ?_
          exact retI hQ hf dX11_mendable_68 hP hD hS
    · replace hf := ineg c5 hf
      by_cases c10 : p2 = 2
      · replace hf := ipos c10 hf
        refine lv_tableIn (off := 68) (tgt := 69) hx hb dX11_mendable_1 (by rw [c10]; decide) (by rw [c10]; decide) (by rw [c10]; rfl) (by decide) ?_
        refine lv_iload_n hx hb dX11_mendable_69 rfl (lv_at hl 1 rfl) ?_
        refine lv_i2l (v := (p1 : Int32).toInt64) hx hb dX11_mendable_70 rfl ?_
        obtain ⟨r12, h11, hf⟩ := bnd1_some hf
        refine tI [] C hP hD hS (c_X11_isLetter h11) ms_X11_isLetter q_472 dX11_mendable_71 ⟨Nat.le_of_ble_eq_true rfl, Nat.le_of_ble_eq_true rfl⟩ ⟨Nat.zero_le _, Nat.zero_le _⟩ rfl rfl (Nat.le_of_ble_eq_true rfl) hl.1 (fun H locs hP hD hS => ?_)
        exact retI hQ hf dX11_mendable_74 hP hD hS
      · replace hf := ineg c10 hf
        by_cases c13 : p2 = 3
        · replace hf := ipos c13 hf
          refine lv_tableIn (off := 68) (tgt := 69) hx hb dX11_mendable_1 (by rw [c13]; decide) (by rw [c13]; decide) (by rw [c13]; rfl) (by decide) ?_
          refine lv_iload_n hx hb dX11_mendable_69 rfl (lv_at hl 1 rfl) ?_
          refine lv_i2l (v := (p1 : Int32).toInt64) hx hb dX11_mendable_70 rfl ?_
          obtain ⟨r15, h14, hf⟩ := bnd1_some hf
          refine tI [] C hP hD hS (c_X11_isLetter h14) ms_X11_isLetter q_472 dX11_mendable_71 ⟨Nat.le_of_ble_eq_true rfl, Nat.le_of_ble_eq_true rfl⟩ ⟨Nat.zero_le _, Nat.zero_le _⟩ rfl rfl (Nat.le_of_ble_eq_true rfl) hl.1 (fun H locs hP hD hS => ?_)
          exact retI hQ hf dX11_mendable_74 hP hD hS
        · replace hf := ineg c13 hf
          by_cases c16 : p2 = 4
          · replace hf := ipos c16 hf
            refine lv_tableIn (off := 74) (tgt := 75) hx hb dX11_mendable_1 (by rw [c16]; decide) (by rw [c16]; decide) (by rw [c16]; rfl) (by decide) ?_
            refine lv_iload_n hx hb dX11_mendable_75 rfl (lv_at hl 1 rfl) ?_
            refine lv_if_ne (tgt := 83) hx hb dX11_mendable_76 (by decide) (fun c17 => ?_) (fun c17 => ?_)
            · replace hf := ineg c17 hf
              refine lv_iconst (v := 0) hx hb dX11_mendable_83 (by decide) ?_
              exact retI hQ hf dX11_mendable_84 hP hD hS
            · replace hf := ipos c17 hf
              refine lv_iconst (v := 1) hx hb dX11_mendable_79 (by decide) ?_
              refine lv_goto (tgt := 84) hx hb dX11_mendable_80 (by decide) ?_
              exact retI hQ hf dX11_mendable_84 hP hD hS
          · replace hf := ineg c16 hf
            refine lv_tableOut (tgt := 85) hx hb dX11_mendable_1 (by have uc1 := lv_neT c1 (a := 0) (by decide); have uc5 := lv_neT c5 (a := 1) (by decide); have uc10 := lv_neT c10 (a := 2) (by decide); have uc13 := lv_neT c13 (a := 3) (by decide); have uc16 := lv_neT c16 (a := 4) (by decide); omega) (by decide) ?_
            refine lv_iconst (v := 0) hx hb dX11_mendable_85 (by decide) ?_
            exact retI hQ hf dX11_mendable_86 hP hD hS
theorem dX11_told_0 : decode cX11_told 0 = .ok (.iload_n 2, 1) := by decide +kernel
theorem dX11_told_1 : decode cX11_told 1 = .ok (.tableswitch 82 0 3 #[31, 41, 62, 72], 31) := by decide +kernel
theorem dX11_told_32 : decode cX11_told 32 = .ok (.aload_n 0, 1) := by decide +kernel
theorem dX11_told_33 : decode cX11_told 33 = .ok (.getfield 19, 3) := by decide +kernel
theorem dX11_told_36 : decode cX11_told 36 = .ok (.getfield 404, 3) := by decide +kernel
theorem dX11_told_39 : decode cX11_told 39 = .ok (.iload_n 1, 1) := by decide +kernel
theorem dX11_told_40 : decode cX11_told 40 = .ok (.iaload, 1) := by decide +kernel
theorem dX11_told_41 : decode cX11_told 41 = .ok (.ireturn, 1) := by decide +kernel
theorem dX11_told_42 : decode cX11_told 42 = .ok (.aload_n 0, 1) := by decide +kernel
theorem dX11_told_43 : decode cX11_told 43 = .ok (.getfield 10, 3) := by decide +kernel
theorem dX11_told_46 : decode cX11_told 46 = .ok (.getfield 407, 3) := by decide +kernel
theorem dX11_told_49 : decode cX11_told 49 = .ok (.iload_n 1, 1) := by decide +kernel
theorem dX11_told_50 : decode cX11_told 50 = .ok (.bipush 100, 2) := by decide +kernel
theorem dX11_told_52 : decode cX11_told 52 = .ok (.idiv, 1) := by decide +kernel
theorem dX11_told_53 : decode cX11_told 53 = .ok (.bipush 12, 2) := by decide +kernel
theorem dX11_told_55 : decode cX11_told 55 = .ok (.imul, 1) := by decide +kernel
theorem dX11_told_56 : decode cX11_told 56 = .ok (.iload_n 1, 1) := by decide +kernel
theorem dX11_told_57 : decode cX11_told 57 = .ok (.bipush 100, 2) := by decide +kernel
theorem dX11_told_59 : decode cX11_told 59 = .ok (.irem, 1) := by decide +kernel
theorem dX11_told_60 : decode cX11_told 60 = .ok (.iadd, 1) := by decide +kernel
theorem dX11_told_61 : decode cX11_told 61 = .ok (.iaload, 1) := by decide +kernel
theorem dX11_told_62 : decode cX11_told 62 = .ok (.ireturn, 1) := by decide +kernel
theorem dX11_told_63 : decode cX11_told 63 = .ok (.aload_n 0, 1) := by decide +kernel
theorem dX11_told_64 : decode cX11_told 64 = .ok (.getfield 10, 3) := by decide +kernel
theorem dX11_told_67 : decode cX11_told 67 = .ok (.getfield 274, 3) := by decide +kernel
theorem dX11_told_70 : decode cX11_told 70 = .ok (.iload_n 1, 1) := by decide +kernel
theorem dX11_told_71 : decode cX11_told 71 = .ok (.iaload, 1) := by decide +kernel
theorem dX11_told_72 : decode cX11_told 72 = .ok (.ireturn, 1) := by decide +kernel
theorem dX11_told_73 : decode cX11_told 73 = .ok (.aload_n 0, 1) := by decide +kernel
theorem dX11_told_74 : decode cX11_told 74 = .ok (.getfield 10, 3) := by decide +kernel
theorem dX11_told_77 : decode cX11_told 77 = .ok (.getfield 410, 3) := by decide +kernel
theorem dX11_told_80 : decode cX11_told 80 = .ok (.iload_n 1, 1) := by decide +kernel
theorem dX11_told_81 : decode cX11_told 81 = .ok (.iaload, 1) := by decide +kernel
theorem dX11_told_82 : decode cX11_told 82 = .ok (.ireturn, 1) := by decide +kernel
theorem dX11_told_83 : decode cX11_told 83 = .ok (.aload_n 0, 1) := by decide +kernel
theorem dX11_told_84 : decode cX11_told 84 = .ok (.getfield 10, 3) := by decide +kernel
theorem dX11_told_87 : decode cX11_told 87 = .ok (.getfield 413, 3) := by decide +kernel
theorem dX11_told_90 : decode cX11_told 90 = .ok (.ireturn, 1) := by decide +kernel
def f_X11_told (σ : St) (p1 : Int32) (p2 : Int32) : Option (Int32 × St) := if p2 = 0 then (chk (p1 < 0 ∨ 10 ≤ p1.toNatClampNeg) (some (σ.2.2.1 302 0 p1.toNatClampNeg, σ))) else (if p2 = 1 then (chk (((p1 / (100 : Int32)) * (12 : Int32)) + (p1 - p1 / (100 : Int32) * (100 : Int32)) < 0 ∨ 144 ≤ (((p1 / (100 : Int32)) * (12 : Int32)) + (p1 - p1 / (100 : Int32) * (100 : Int32))).toNatClampNeg) (some (σ.2.2.1 250 0 (((p1 / (100 : Int32)) * (12 : Int32)) + (p1 - p1 / (100 : Int32) * (100 : Int32))).toNatClampNeg, σ))) else (if p2 = 2 then (chk (p1 < 0 ∨ 12 ≤ p1.toNatClampNeg) (some (σ.2.2.1 251 0 p1.toNatClampNeg, σ))) else (if p2 = 3 then (chk (p1 < 0 ∨ 12 ≤ p1.toNatClampNeg) (some (σ.2.2.1 252 0 p1.toNatClampNeg, σ))) else (some (σ.1 253 0, σ)))))
set_option maxHeartbeats 4000000 in
set_option maxRecDepth 100000 in
theorem c_X11_told {l : Launch} {g : va_G} {ts : ClassId × ClassId × ClassId} {a : Nat → Nat} {σ : St} {p1 : Int32} {p2 : Int32} {r : Int32} {σ' : St} (hf : f_X11_told σ p1 p2 = some (r, σ')) : ConI l g ts (WC ts a) yX11_told cX11_told 3 (some .int) (rk 0 0) σ [.ref (a 0), .int p1, .int p2] r σ' := by
  refine ConI_mk .int rfl rfl rfl rfl (by decide) (Nat.le_of_ble_eq_true rfl) ?_
  intro p e s m below meth c A Q ls C hQ hP hD hS hl
  have C : FX p s m _ meth c RX11 cX11_told 3 g ts A := C
  have hx := C.1
  have hb := C.2.1
  have hown := C.2.2.2.1
  have hts := C.2.2.2.2.1
  have hl : lv_has ls 3 [(0, .ref (a 0)), (1, .int p1), (2, .int p2)] := hl
  rw [f_X11_told] at hf
  refine lv_iload_n hx hb dX11_told_0 rfl (lv_at hl 2 rfl) ?_
  by_cases c1 : p2 = 0
  · replace hf := ipos c1 hf
    refine lv_tableIn (off := 31) (tgt := 32) hx hb dX11_told_1 (by rw [c1]; decide) (by rw [c1]; decide) (by rw [c1]; rfl) (by decide) ?_
    refine lv_aload_n hx hb dX11_told_32 rfl (lv_at hl 0 rfl) ?_
    refine G_X11_names C hP q_381 dX11_told_33 ?_
    refine G_X6_known C hP q_163 dX11_told_36 ?_
    refine lv_iload_n hx hb dX11_told_39 rfl (lv_at hl 1 rfl) ?_
    obtain ⟨h2, hf⟩ := chk_some hf
    refine AL_X6_known C hP h2 dX11_told_40 ?_
    exact retI hQ hf dX11_told_41 hP hD hS
  · replace hf := ineg c1 hf
    by_cases c3 : p2 = 1
    · replace hf := ipos c3 hf
      refine lv_tableIn (off := 41) (tgt := 42) hx hb dX11_told_1 (by rw [c3]; decide) (by rw [c3]; decide) (by rw [c3]; rfl) (by decide) ?_
      refine lv_aload_n hx hb dX11_told_42 rfl (lv_at hl 0 rfl) ?_
      refine G_X11_line C hP q_380 dX11_told_43 ?_
      refine G_X5_alike C hP q_117 dX11_told_46 ?_
      refine lv_iload_n hx hb dX11_told_49 rfl (lv_at hl 1 rfl) ?_
      refine lv_bipush (v := 100) hx hb dX11_told_50 (by decide) ?_
      refine lv_idiv hx hb dX11_told_52 (by decide) ?_
      refine lv_bipush (v := 12) hx hb dX11_told_53 (by decide) ?_
      refine lv_imul hx hb dX11_told_55 ?_
      refine lv_iload_n hx hb dX11_told_56 rfl (lv_at hl 1 rfl) ?_
      refine lv_bipush (v := 100) hx hb dX11_told_57 (by decide) ?_
      refine lv_irem hx hb dX11_told_59 (by decide) ?_
      refine lv_iadd hx hb dX11_told_60 ?_
      obtain ⟨h4, hf⟩ := chk_some hf
      refine AL_X5_alike C hP h4 dX11_told_61 ?_
      exact retI hQ hf dX11_told_62 hP hD hS
    · replace hf := ineg c3 hf
      by_cases c5 : p2 = 2
      · replace hf := ipos c5 hf
        refine lv_tableIn (off := 62) (tgt := 63) hx hb dX11_told_1 (by rw [c5]; decide) (by rw [c5]; decide) (by rw [c5]; rfl) (by decide) ?_
        refine lv_aload_n hx hb dX11_told_63 rfl (lv_at hl 0 rfl) ?_
        refine G_X11_line C hP q_380 dX11_told_64 ?_
        refine G_X5_longs C hP q_120 dX11_told_67 ?_
        refine lv_iload_n hx hb dX11_told_70 rfl (lv_at hl 1 rfl) ?_
        obtain ⟨h6, hf⟩ := chk_some hf
        refine AL_X5_longs C hP h6 dX11_told_71 ?_
        exact retI hQ hf dX11_told_72 hP hD hS
      · replace hf := ineg c5 hf
        by_cases c7 : p2 = 3
        · replace hf := ipos c7 hf
          refine lv_tableIn (off := 72) (tgt := 73) hx hb dX11_told_1 (by rw [c7]; decide) (by rw [c7]; decide) (by rw [c7]; rfl) (by decide) ?_
          refine lv_aload_n hx hb dX11_told_73 rfl (lv_at hl 0 rfl) ?_
          refine G_X11_line C hP q_380 dX11_told_74 ?_
          refine G_X5_clear C hP q_124 dX11_told_77 ?_
          refine lv_iload_n hx hb dX11_told_80 rfl (lv_at hl 1 rfl) ?_
          obtain ⟨h8, hf⟩ := chk_some hf
          refine AL_X5_clear C hP h8 dX11_told_81 ?_
          exact retI hQ hf dX11_told_82 hP hD hS
        · replace hf := ineg c7 hf
          refine lv_tableOut (tgt := 83) hx hb dX11_told_1 (by have uc1 := lv_neT c1 (a := 0) (by decide); have uc3 := lv_neT c3 (a := 1) (by decide); have uc5 := lv_neT c5 (a := 2) (by decide); have uc7 := lv_neT c7 (a := 3) (by decide); omega) (by decide) ?_
          refine lv_aload_n hx hb dX11_told_83 rfl (lv_at hl 0 rfl) ?_
          refine G_X11_line C hP q_380 dX11_told_84 ?_
          refine G_X5_noise C hP q_126 dX11_told_87 ?_
          exact retI hQ hf dX11_told_90 hP hD hS
theorem dX11_tellAnew_0 : decode cX11_tellAnew 0 = .ok (.iload_n 2, 1) := by decide +kernel
theorem dX11_tellAnew_1 : decode cX11_tellAnew 1 = .ok (.tableswitch 89 0 3 #[31, 44, 63, 76], 31) := by decide +kernel
theorem dX11_tellAnew_32 : decode cX11_tellAnew 32 = .ok (.aload_n 0, 1) := by decide +kernel
theorem dX11_tellAnew_33 : decode cX11_tellAnew 33 = .ok (.getfield 19, 3) := by decide +kernel
theorem dX11_tellAnew_36 : decode cX11_tellAnew 36 = .ok (.getfield 404, 3) := by decide +kernel
theorem dX11_tellAnew_39 : decode cX11_tellAnew 39 = .ok (.iload_n 1, 1) := by decide +kernel
theorem dX11_tellAnew_40 : decode cX11_tellAnew 40 = .ok (.iload_n 3, 1) := by decide +kernel
theorem dX11_tellAnew_41 : decode cX11_tellAnew 41 = .ok (.iastore, 1) := by decide +kernel
theorem dX11_tellAnew_42 : decode cX11_tellAnew 42 = .ok (.goto 56, 3) := by decide +kernel
theorem dX11_tellAnew_45 : decode cX11_tellAnew 45 = .ok (.aload_n 0, 1) := by decide +kernel
theorem dX11_tellAnew_46 : decode cX11_tellAnew 46 = .ok (.getfield 10, 3) := by decide +kernel
theorem dX11_tellAnew_49 : decode cX11_tellAnew 49 = .ok (.iload_n 1, 1) := by decide +kernel
theorem dX11_tellAnew_50 : decode cX11_tellAnew 50 = .ok (.bipush 100, 2) := by decide +kernel
theorem dX11_tellAnew_52 : decode cX11_tellAnew 52 = .ok (.idiv, 1) := by decide +kernel
theorem dX11_tellAnew_53 : decode cX11_tellAnew 53 = .ok (.iload_n 1, 1) := by decide +kernel
theorem dX11_tellAnew_54 : decode cX11_tellAnew 54 = .ok (.bipush 100, 2) := by decide +kernel
theorem dX11_tellAnew_56 : decode cX11_tellAnew 56 = .ok (.irem, 1) := by decide +kernel
theorem dX11_tellAnew_57 : decode cX11_tellAnew 57 = .ok (.iload_n 3, 1) := by decide +kernel
theorem dX11_tellAnew_58 : decode cX11_tellAnew 58 = .ok (.invokevirtual 416, 3) := by decide +kernel
theorem dX11_tellAnew_61 : decode cX11_tellAnew 61 = .ok (.goto 37, 3) := by decide +kernel
theorem dX11_tellAnew_64 : decode cX11_tellAnew 64 = .ok (.aload_n 0, 1) := by decide +kernel
theorem dX11_tellAnew_65 : decode cX11_tellAnew 65 = .ok (.getfield 10, 3) := by decide +kernel
theorem dX11_tellAnew_68 : decode cX11_tellAnew 68 = .ok (.getfield 274, 3) := by decide +kernel
theorem dX11_tellAnew_71 : decode cX11_tellAnew 71 = .ok (.iload_n 1, 1) := by decide +kernel
theorem dX11_tellAnew_72 : decode cX11_tellAnew 72 = .ok (.iload_n 3, 1) := by decide +kernel
theorem dX11_tellAnew_73 : decode cX11_tellAnew 73 = .ok (.iastore, 1) := by decide +kernel
theorem dX11_tellAnew_74 : decode cX11_tellAnew 74 = .ok (.goto 24, 3) := by decide +kernel
theorem dX11_tellAnew_77 : decode cX11_tellAnew 77 = .ok (.aload_n 0, 1) := by decide +kernel
theorem dX11_tellAnew_78 : decode cX11_tellAnew 78 = .ok (.getfield 10, 3) := by decide +kernel
theorem dX11_tellAnew_81 : decode cX11_tellAnew 81 = .ok (.getfield 410, 3) := by decide +kernel
theorem dX11_tellAnew_84 : decode cX11_tellAnew 84 = .ok (.iload_n 1, 1) := by decide +kernel
theorem dX11_tellAnew_85 : decode cX11_tellAnew 85 = .ok (.iload_n 3, 1) := by decide +kernel
theorem dX11_tellAnew_86 : decode cX11_tellAnew 86 = .ok (.iastore, 1) := by decide +kernel
theorem dX11_tellAnew_87 : decode cX11_tellAnew 87 = .ok (.goto 11, 3) := by decide +kernel
theorem dX11_tellAnew_90 : decode cX11_tellAnew 90 = .ok (.aload_n 0, 1) := by decide +kernel
theorem dX11_tellAnew_91 : decode cX11_tellAnew 91 = .ok (.getfield 10, 3) := by decide +kernel
theorem dX11_tellAnew_94 : decode cX11_tellAnew 94 = .ok (.iload_n 3, 1) := by decide +kernel
theorem dX11_tellAnew_95 : decode cX11_tellAnew 95 = .ok (.invokevirtual 419, 3) := by decide +kernel
theorem dX11_tellAnew_98 : decode cX11_tellAnew 98 = .ok (.return_, 1) := by decide +kernel
def f_X11_tellAnew (σ : St) (p1 : Int32) (p2 : Int32) (p3 : Int32) : Option St := if p2 = 0 then (chk (p1 < 0 ∨ 10 ≤ p1.toNatClampNeg) (bnd (sA σ 302 0 (upd (σ.2.2.1 302 0) p1.toNatClampNeg p3)) (fun σ3 => some σ3))) else (if p2 = 1 then (bnd1 (f_X5_likenTo σ (p1 / (100 : Int32)) (p1 - p1 / (100 : Int32) * (100 : Int32)) p3) (fun σ6 => some σ6)) else (if p2 = 2 then (chk (p1 < 0 ∨ 12 ≤ p1.toNatClampNeg) (bnd (sA σ 251 0 (upd (σ.2.2.1 251 0) p1.toNatClampNeg p3)) (fun σ9 => some σ9))) else (if p2 = 3 then (chk (p1 < 0 ∨ 12 ≤ p1.toNatClampNeg) (bnd (sA σ 252 0 (upd (σ.2.2.1 252 0) p1.toNatClampNeg p3)) (fun σ12 => some σ12))) else (bnd1 (f_X5_makeNoise σ p3) (fun σ14 => some σ14)))))
set_option maxHeartbeats 4000000 in
set_option maxRecDepth 100000 in
theorem c_X11_tellAnew {l : Launch} {g : va_G} {ts : ClassId × ClassId × ClassId} {a : Nat → Nat} {σ : St} {p1 : Int32} {p2 : Int32} {p3 : Int32} {σ' : St} (hf : f_X11_tellAnew σ p1 p2 p3 = some σ') : ConV l g ts (WC ts a) yX11_tellAnew cX11_tellAnew 4 none (rk 2 44) σ [.ref (a 0), .int p1, .int p2, .int p3] σ' := by
  refine ConV_mk rfl rfl (by decide) (Nat.le_of_ble_eq_true rfl) ?_
  intro p e s m below meth c A Q ls C hQ hP hD hS hl
  have C : FX p s m _ meth c RX11 cX11_tellAnew 4 g ts A := C
  have hx := C.1
  have hb := C.2.1
  have hown := C.2.2.2.1
  have hts := C.2.2.2.2.1
  have hl : lv_has ls 4 [(0, .ref (a 0)), (1, .int p1), (2, .int p2), (3, .int p3)] := hl
  rw [f_X11_tellAnew] at hf
  refine lv_iload_n hx hb dX11_tellAnew_0 rfl (lv_at hl 2 rfl) ?_
  by_cases c1 : p2 = 0
  · replace hf := ipos c1 hf
    refine lv_tableIn (off := 31) (tgt := 32) hx hb dX11_tellAnew_1 (by rw [c1]; decide) (by rw [c1]; decide) (by rw [c1]; rfl) (by decide) ?_
    refine lv_aload_n hx hb dX11_tellAnew_32 rfl (lv_at hl 0 rfl) ?_
    refine G_X11_names C hP q_381 dX11_tellAnew_33 ?_
    refine G_X6_known C hP q_163 dX11_tellAnew_36 ?_
    refine lv_iload_n hx hb dX11_tellAnew_39 rfl (lv_at hl 1 rfl) ?_
    refine lv_iload_n hx hb dX11_tellAnew_40 rfl (lv_at hl 3 rfl) ?_
    obtain ⟨h2, hf⟩ := chk_some hf
    refine AS_X6_known C hP hD hS h2 dX11_tellAnew_41 (fun H locs hP hD hS => ?_)
    refine nameS hP hD hf (fun σ3 hP hD hf => ?_)
    refine lv_goto (tgt := 98) hx hb dX11_tellAnew_42 (by decide) ?_
    exact retV hQ hf dX11_tellAnew_98 hP hD hS
  · replace hf := ineg c1 hf
    by_cases c4 : p2 = 1
    · replace hf := ipos c4 hf
      refine lv_tableIn (off := 44) (tgt := 45) hx hb dX11_tellAnew_1 (by rw [c4]; decide) (by rw [c4]; decide) (by rw [c4]; rfl) (by decide) ?_
      refine lv_aload_n hx hb dX11_tellAnew_45 rfl (lv_at hl 0 rfl) ?_
      refine G_X11_line C hP q_380 dX11_tellAnew_46 ?_
      refine lv_iload_n hx hb dX11_tellAnew_49 rfl (lv_at hl 1 rfl) ?_
      refine lv_bipush (v := 100) hx hb dX11_tellAnew_50 (by decide) ?_
      refine lv_idiv hx hb dX11_tellAnew_52 (by decide) ?_
      refine lv_iload_n hx hb dX11_tellAnew_53 rfl (lv_at hl 1 rfl) ?_
      refine lv_bipush (v := 100) hx hb dX11_tellAnew_54 (by decide) ?_
      refine lv_irem hx hb dX11_tellAnew_56 (by decide) ?_
      refine lv_iload_n hx hb dX11_tellAnew_57 rfl (lv_at hl 3 rfl) ?_
      obtain ⟨σ6, h5, hf⟩ := bnd1_some hf
      refine vV [] C hP hD hS (c_X5_likenTo h5) mv_X5_likenTo q_484 rv_X5 dX11_tellAnew_58 ⟨Nat.le_of_ble_eq_true rfl, Nat.le_of_ble_eq_true rfl⟩ ⟨Nat.zero_le _, Nat.zero_le _⟩ rfl rfl (Nat.le_of_ble_eq_true rfl) hl.1 (fun H locs hP hD hS => ?_)
      refine lv_goto (tgt := 98) hx hb dX11_tellAnew_61 (by decide) ?_
      exact retV hQ hf dX11_tellAnew_98 hP hD hS
    · replace hf := ineg c4 hf
      by_cases c7 : p2 = 2
      · replace hf := ipos c7 hf
        refine lv_tableIn (off := 63) (tgt := 64) hx hb dX11_tellAnew_1 (by rw [c7]; decide) (by rw [c7]; decide) (by rw [c7]; rfl) (by decide) ?_
        refine lv_aload_n hx hb dX11_tellAnew_64 rfl (lv_at hl 0 rfl) ?_
        refine G_X11_line C hP q_380 dX11_tellAnew_65 ?_
        refine G_X5_longs C hP q_120 dX11_tellAnew_68 ?_
        refine lv_iload_n hx hb dX11_tellAnew_71 rfl (lv_at hl 1 rfl) ?_
        refine lv_iload_n hx hb dX11_tellAnew_72 rfl (lv_at hl 3 rfl) ?_
        obtain ⟨h8, hf⟩ := chk_some hf
        refine AS_X5_longs C hP hD hS h8 dX11_tellAnew_73 (fun H locs hP hD hS => ?_)
        refine nameS hP hD hf (fun σ9 hP hD hf => ?_)
        refine lv_goto (tgt := 98) hx hb dX11_tellAnew_74 (by decide) ?_
        exact retV hQ hf dX11_tellAnew_98 hP hD hS
      · replace hf := ineg c7 hf
        by_cases c10 : p2 = 3
        · replace hf := ipos c10 hf
          refine lv_tableIn (off := 76) (tgt := 77) hx hb dX11_tellAnew_1 (by rw [c10]; decide) (by rw [c10]; decide) (by rw [c10]; rfl) (by decide) ?_
          refine lv_aload_n hx hb dX11_tellAnew_77 rfl (lv_at hl 0 rfl) ?_
          refine G_X11_line C hP q_380 dX11_tellAnew_78 ?_
          refine G_X5_clear C hP q_124 dX11_tellAnew_81 ?_
          refine lv_iload_n hx hb dX11_tellAnew_84 rfl (lv_at hl 1 rfl) ?_
          refine lv_iload_n hx hb dX11_tellAnew_85 rfl (lv_at hl 3 rfl) ?_
          obtain ⟨h11, hf⟩ := chk_some hf
          refine AS_X5_clear C hP hD hS h11 dX11_tellAnew_86 (fun H locs hP hD hS => ?_)
          refine nameS hP hD hf (fun σ12 hP hD hf => ?_)
          refine lv_goto (tgt := 98) hx hb dX11_tellAnew_87 (by decide) ?_
          exact retV hQ hf dX11_tellAnew_98 hP hD hS
        · replace hf := ineg c10 hf
          refine lv_tableOut (tgt := 90) hx hb dX11_tellAnew_1 (by have uc1 := lv_neT c1 (a := 0) (by decide); have uc4 := lv_neT c4 (a := 1) (by decide); have uc7 := lv_neT c7 (a := 2) (by decide); have uc10 := lv_neT c10 (a := 3) (by decide); omega) (by decide) ?_
          refine lv_aload_n hx hb dX11_tellAnew_90 rfl (lv_at hl 0 rfl) ?_
          refine G_X11_line C hP q_380 dX11_tellAnew_91 ?_
          refine lv_iload_n hx hb dX11_tellAnew_94 rfl (lv_at hl 3 rfl) ?_
          obtain ⟨σ14, h13, hf⟩ := bnd1_some hf
          refine vV [] C hP hD hS (c_X5_makeNoise h13) mv_X5_makeNoise q_488 rv_X5 dX11_tellAnew_95 ⟨Nat.le_of_ble_eq_true rfl, Nat.le_of_ble_eq_true rfl⟩ ⟨Nat.zero_le _, Nat.zero_le _⟩ rfl rfl (Nat.le_of_ble_eq_true rfl) hl.1 (fun H locs hP hD hS => ?_)
          exact retV hQ hf dX11_tellAnew_98 hP hD hS
theorem dX11_mend_0 : decode cX11_mend 0 = .ok (.aload_n 0, 1) := by decide +kernel
theorem dX11_mend_1 : decode cX11_mend 1 = .ok (.iload_n 1, 1) := by decide +kernel
theorem dX11_mend_2 : decode cX11_mend 2 = .ok (.iload_n 2, 1) := by decide +kernel
theorem dX11_mend_3 : decode cX11_mend 3 = .ok (.invokevirtual 102, 3) := by decide +kernel
theorem dX11_mend_6 : decode cX11_mend 6 = .ok (.ifCond .eq 11, 3) := by decide +kernel
theorem dX11_mend_9 : decode cX11_mend 9 = .ok (.iload_n 2, 1) := by decide +kernel
theorem dX11_mend_10 : decode cX11_mend 10 = .ok (.iload_n 3, 1) := by decide +kernel
theorem dX11_mend_11 : decode cX11_mend 11 = .ok (.invokestatic 105, 3) := by decide +kernel
theorem dX11_mend_14 : decode cX11_mend 14 = .ok (.ifCond .ne 5, 3) := by decide +kernel
theorem dX11_mend_17 : decode cX11_mend 17 = .ok (.iconst (-1), 1) := by decide +kernel
theorem dX11_mend_18 : decode cX11_mend 18 = .ok (.ireturn, 1) := by decide +kernel
theorem dX11_mend_19 : decode cX11_mend 19 = .ok (.aload_n 0, 1) := by decide +kernel
theorem dX11_mend_20 : decode cX11_mend 20 = .ok (.iload_n 1, 1) := by decide +kernel
theorem dX11_mend_21 : decode cX11_mend 21 = .ok (.iload_n 2, 1) := by decide +kernel
theorem dX11_mend_22 : decode cX11_mend 22 = .ok (.invokevirtual 108, 3) := by decide +kernel
theorem dX11_mend_25 : decode cX11_mend 25 = .ok (.istore 4, 2) := by decide +kernel
theorem dX11_mend_27 : decode cX11_mend 27 = .ok (.iload 4, 2) := by decide +kernel
theorem dX11_mend_29 : decode cX11_mend 29 = .ok (.iload_n 3, 1) := by decide +kernel
theorem dX11_mend_30 : decode cX11_mend 30 = .ok (.if_icmp .eq 22, 3) := by decide +kernel
theorem dX11_mend_33 : decode cX11_mend 33 = .ok (.aload_n 0, 1) := by decide +kernel
theorem dX11_mend_34 : decode cX11_mend 34 = .ok (.iload_n 1, 1) := by decide +kernel
theorem dX11_mend_35 : decode cX11_mend 35 = .ok (.iload_n 2, 1) := by decide +kernel
theorem dX11_mend_36 : decode cX11_mend 36 = .ok (.iload_n 3, 1) := by decide +kernel
theorem dX11_mend_37 : decode cX11_mend 37 = .ok (.invokevirtual 112, 3) := by decide +kernel
theorem dX11_mend_40 : decode cX11_mend 40 = .ok (.aload_n 0, 1) := by decide +kernel
theorem dX11_mend_41 : decode cX11_mend 41 = .ok (.getfield 58, 3) := by decide +kernel
theorem dX11_mend_44 : decode cX11_mend 44 = .ok (.iload_n 1, 1) := by decide +kernel
theorem dX11_mend_45 : decode cX11_mend 45 = .ok (.iload_n 2, 1) := by decide +kernel
theorem dX11_mend_46 : decode cX11_mend 46 = .ok (.iload 4, 2) := by decide +kernel
theorem dX11_mend_48 : decode cX11_mend 48 = .ok (.iload_n 3, 1) := by decide +kernel
theorem dX11_mend_49 : decode cX11_mend 49 = .ok (.invokevirtual 116, 3) := by decide +kernel
theorem dX11_mend_52 : decode cX11_mend 52 = .ok (.iload 4, 2) := by decide +kernel
theorem dX11_mend_54 : decode cX11_mend 54 = .ok (.ireturn, 1) := by decide +kernel
def f_X11_mend (σ : St) (p1 : Int32) (p2 : Int32) (p3 : Int32) : Option (Int32 × St) := bnd2 (f_X11_mendable σ p1 p2) (fun r2 σ3 => if r2 = 0 then (some ((-1 : Int32), σ3)) else (bnd1 (f_X11_within p2 p3) (fun r6 => if r6 = 0 then (some ((-1 : Int32), σ3)) else (bnd2 (f_X11_told σ3 p1 p2) (fun r9 σ10 => if r9 = p3 then (some (r9, σ10)) else (bnd1 (f_X11_tellAnew σ10 p1 p2 p3) (fun σ13 => bnd1 (f_X0_enter σ13 p1 p2 r9 p3) (fun σ15 => some (r9, σ15)))))))))
set_option maxHeartbeats 4000000 in
set_option maxRecDepth 100000 in
theorem c_X11_mend {l : Launch} {g : va_G} {ts : ClassId × ClassId × ClassId} {a : Nat → Nat} {σ : St} {p1 : Int32} {p2 : Int32} {p3 : Int32} {r : Int32} {σ' : St} (hf : f_X11_mend σ p1 p2 p3 = some (r, σ')) : ConI l g ts (WC ts a) yX11_mend cX11_mend 5 (some .int) (rk 3 67) σ [.ref (a 0), .int p1, .int p2, .int p3] r σ' := by
  refine ConI_mk .int rfl rfl rfl rfl (by decide) (Nat.le_of_ble_eq_true rfl) ?_
  intro p e s m below meth c A Q ls C hQ hP hD hS hl
  have C : FX p s m _ meth c RX11 cX11_mend 5 g ts A := C
  have hx := C.1
  have hb := C.2.1
  have hown := C.2.2.2.1
  have hts := C.2.2.2.2.1
  have hl : lv_has ls 5 [(0, .ref (a 0)), (1, .int p1), (2, .int p2), (3, .int p3)] := hl
  rw [f_X11_mend] at hf
  refine lv_aload_n hx hb dX11_mend_0 rfl (lv_at hl 0 rfl) ?_
  refine lv_iload_n hx hb dX11_mend_1 rfl (lv_at hl 1 rfl) ?_
  refine lv_iload_n hx hb dX11_mend_2 rfl (lv_at hl 2 rfl) ?_
  obtain ⟨r2, σ3, h1, hf⟩ := bnd2_some hf
  refine vI [] C hP hD hS (c_X11_mendable h1) mv_X11_mendable q_461 rv_X11 dX11_mend_3 ⟨Nat.le_of_ble_eq_true rfl, Nat.le_of_ble_eq_true rfl⟩ ⟨Nat.zero_le _, Nat.zero_le _⟩ rfl rfl (Nat.le_of_ble_eq_true rfl) hl.1 (fun H locs hP hD hS => ?_)
  refine lv_if_eq (tgt := 17) hx hb dX11_mend_6 (by decide) (fun c4 => ?_) (fun c4 => ?_)
  · replace hf := ipos c4 hf
    refine lv_iconst (v := -1) hx hb dX11_mend_17 (by decide) ?_
    exact retI hQ hf dX11_mend_18 hP hD hS
  · replace hf := ineg c4 hf
    refine lv_iload_n hx hb dX11_mend_9 rfl (lv_at hl 2 rfl) ?_
    refine lv_iload_n hx hb dX11_mend_10 rfl (lv_at hl 3 rfl) ?_
    obtain ⟨r6, h5, hf⟩ := bnd1_some hf
    refine tI [] C hP hD hS (c_X11_within h5) ms_X11_within q_473 dX11_mend_11 ⟨Nat.le_of_ble_eq_true rfl, Nat.le_of_ble_eq_true rfl⟩ ⟨Nat.zero_le _, Nat.zero_le _⟩ rfl rfl (Nat.le_of_ble_eq_true rfl) hl.1 (fun H locs hP hD hS => ?_)
    refine lv_if_ne (tgt := 19) hx hb dX11_mend_14 (by decide) (fun c7 => ?_) (fun c7 => ?_)
    · replace hf := ineg c7 hf
      refine lv_aload_n hx hb dX11_mend_19 rfl (lv_at hl 0 rfl) ?_
      refine lv_iload_n hx hb dX11_mend_20 rfl (lv_at hl 1 rfl) ?_
      refine lv_iload_n hx hb dX11_mend_21 rfl (lv_at hl 2 rfl) ?_
      obtain ⟨r9, σ10, h8, hf⟩ := bnd2_some hf
      refine vI [] C hP hD hS (c_X11_told h8) mv_X11_told q_476 rv_X11 dX11_mend_22 ⟨Nat.le_of_ble_eq_true rfl, Nat.le_of_ble_eq_true rfl⟩ ⟨Nat.zero_le _, Nat.zero_le _⟩ rfl rfl (Nat.le_of_ble_eq_true rfl) hl.1 (fun H locs hP hD hS => ?_)
      refine lv_istore (lv' := [(4, .int r9), (0, .ref (a 0)), (1, .int p1), (2, .int p2), (3, .int p3)]) hx hb dX11_mend_25 hl (by decide) rfl (fun ls hl => ?_)
      refine lv_iload hx hb dX11_mend_27 (lv_at hl 0 rfl) ?_
      refine lv_iload_n hx hb dX11_mend_29 rfl (lv_at hl 4 rfl) ?_
      refine lv_icmp_eq (tgt := 52) hx hb dX11_mend_30 (by decide) (fun c11 => ?_) (fun c11 => ?_)
      · replace hf := ipos c11 hf
        refine lv_iload hx hb dX11_mend_52 (lv_at hl 0 rfl) ?_
        exact retI hQ hf dX11_mend_54 hP hD hS
      · replace hf := ineg c11 hf
        refine lv_aload_n hx hb dX11_mend_33 rfl (lv_at hl 1 rfl) ?_
        refine lv_iload_n hx hb dX11_mend_34 rfl (lv_at hl 2 rfl) ?_
        refine lv_iload_n hx hb dX11_mend_35 rfl (lv_at hl 3 rfl) ?_
        refine lv_iload_n hx hb dX11_mend_36 rfl (lv_at hl 4 rfl) ?_
        obtain ⟨σ13, h12, hf⟩ := bnd1_some hf
        refine vV [] C hP hD hS (c_X11_tellAnew h12) mv_X11_tellAnew q_480 rv_X11 dX11_mend_37 ⟨Nat.le_of_ble_eq_true rfl, Nat.le_of_ble_eq_true rfl⟩ ⟨Nat.zero_le _, Nat.zero_le _⟩ rfl rfl (Nat.le_of_ble_eq_true rfl) hl.1 (fun H locs hP hD hS => ?_)
        refine lv_aload_n hx hb dX11_mend_40 rfl (lv_at hl 1 rfl) ?_
        refine G_X11_changes C hP q_386 dX11_mend_41 ?_
        refine lv_iload_n hx hb dX11_mend_44 rfl (lv_at hl 2 rfl) ?_
        refine lv_iload_n hx hb dX11_mend_45 rfl (lv_at hl 3 rfl) ?_
        refine lv_iload hx hb dX11_mend_46 (lv_at hl 0 rfl) ?_
        refine lv_iload_n hx hb dX11_mend_48 rfl (lv_at hl 4 rfl) ?_
        obtain ⟨σ15, h14, hf⟩ := bnd1_some hf
        refine vV [] C hP hD hS (c_X0_enter h14) mv_X0_enter q_492 rv_X0 dX11_mend_49 ⟨Nat.le_of_ble_eq_true rfl, Nat.le_of_ble_eq_true rfl⟩ ⟨Nat.zero_le _, Nat.zero_le _⟩ rfl rfl (Nat.le_of_ble_eq_true rfl) hl.1 (fun H locs hP hD hS => ?_)
        refine lv_iload hx hb dX11_mend_52 (lv_at hl 0 rfl) ?_
        exact retI hQ hf dX11_mend_54 hP hD hS
    · replace hf := ipos c7 hf
      refine lv_iconst (v := -1) hx hb dX11_mend_17 (by decide) ?_
      exact retI hQ hf dX11_mend_18 hP hD hS
theorem dX11_of_0 : decode cX11_of 0 = .ok (.iload_n 2, 1) := by decide +kernel
theorem dX11_of_1 : decode cX11_of 1 = .ok (.iconst 5, 1) := by decide +kernel
theorem dX11_of_2 : decode cX11_of 2 = .ok (.if_icmp .ne 28, 3) := by decide +kernel
theorem dX11_of_5 : decode cX11_of 5 = .ok (.aload_n 0, 1) := by decide +kernel
theorem dX11_of_6 : decode cX11_of 6 = .ok (.getfield 19, 3) := by decide +kernel
theorem dX11_of_9 : decode cX11_of 9 = .ok (.iload_n 1, 1) := by decide +kernel
theorem dX11_of_10 : decode cX11_of 10 = .ok (.invokevirtual 119, 3) := by decide +kernel
theorem dX11_of_13 : decode cX11_of 13 = .ok (.ifCond .eq 15, 3) := by decide +kernel
theorem dX11_of_16 : decode cX11_of 16 = .ok (.aload_n 0, 1) := by decide +kernel
theorem dX11_of_17 : decode cX11_of 17 = .ok (.getfield 19, 3) := by decide +kernel
theorem dX11_of_20 : decode cX11_of 20 = .ok (.getfield 123, 3) := by decide +kernel
theorem dX11_of_23 : decode cX11_of 23 = .ok (.iload_n 1, 1) := by decide +kernel
theorem dX11_of_24 : decode cX11_of 24 = .ok (.iaload, 1) := by decide +kernel
theorem dX11_of_25 : decode cX11_of 25 = .ok (.goto 4, 3) := by decide +kernel
theorem dX11_of_28 : decode cX11_of 28 = .ok (.iconst (-1), 1) := by decide +kernel
theorem dX11_of_29 : decode cX11_of 29 = .ok (.ireturn, 1) := by decide +kernel
theorem dX11_of_30 : decode cX11_of 30 = .ok (.iload_n 2, 1) := by decide +kernel
theorem dX11_of_31 : decode cX11_of 31 = .ok (.iconst 1, 1) := by decide +kernel
theorem dX11_of_32 : decode cX11_of 32 = .ok (.if_icmp .ne 14, 3) := by decide +kernel
theorem dX11_of_35 : decode cX11_of 35 = .ok (.iload_n 1, 1) := by decide +kernel
theorem dX11_of_36 : decode cX11_of 36 = .ok (.invokestatic 127, 3) := by decide +kernel
theorem dX11_of_39 : decode cX11_of 39 = .ok (.ifCond .eq 7, 3) := by decide +kernel
theorem dX11_of_42 : decode cX11_of 42 = .ok (.iconst 1, 1) := by decide +kernel
theorem dX11_of_43 : decode cX11_of 43 = .ok (.goto 4, 3) := by decide +kernel
theorem dX11_of_46 : decode cX11_of 46 = .ok (.iconst 0, 1) := by decide +kernel
theorem dX11_of_47 : decode cX11_of 47 = .ok (.istore_n 3, 1) := by decide +kernel
theorem dX11_of_48 : decode cX11_of 48 = .ok (.iload_n 3, 1) := by decide +kernel
theorem dX11_of_49 : decode cX11_of 49 = .ok (.ifCond .ne 12, 3) := by decide +kernel
theorem dX11_of_52 : decode cX11_of 52 = .ok (.aload_n 0, 1) := by decide +kernel
theorem dX11_of_53 : decode cX11_of 53 = .ok (.iload_n 1, 1) := by decide +kernel
theorem dX11_of_54 : decode cX11_of 54 = .ok (.iload_n 2, 1) := by decide +kernel
theorem dX11_of_55 : decode cX11_of 55 = .ok (.invokevirtual 102, 3) := by decide +kernel
theorem dX11_of_58 : decode cX11_of 58 = .ok (.ifCond .eq 12, 3) := by decide +kernel
theorem dX11_of_61 : decode cX11_of 61 = .ok (.aload_n 0, 1) := by decide +kernel
theorem dX11_of_62 : decode cX11_of 62 = .ok (.iload_n 1, 1) := by decide +kernel
theorem dX11_of_63 : decode cX11_of 63 = .ok (.iload_n 2, 1) := by decide +kernel
theorem dX11_of_64 : decode cX11_of 64 = .ok (.invokevirtual 108, 3) := by decide +kernel
theorem dX11_of_67 : decode cX11_of 67 = .ok (.goto 4, 3) := by decide +kernel
theorem dX11_of_70 : decode cX11_of 70 = .ok (.iconst (-1), 1) := by decide +kernel
theorem dX11_of_71 : decode cX11_of 71 = .ok (.ireturn, 1) := by decide +kernel
def f_X11_of_b61 (σ : St) (x1 : Int32) (x2 : Int32) : Option (Int32 × St) := bnd2 (f_X11_told σ x1 x2) (fun r17 σ18 => some (r17, σ18))
def f_X11_of_b47 (σ : St) (x1 : Int32) (x2 : Int32) (s0 : Int32) : Option (Int32 × St) := if s0 = 0 then (bnd2 (f_X11_mendable σ x1 x2) (fun r13 σ14 => if r13 = 0 then (some ((-1 : Int32), σ14)) else (f_X11_of_b61 σ14 x1 x2))) else (f_X11_of_b61 σ x1 x2)
def f_X11_of_b46 (σ : St) (x1 : Int32) (x2 : Int32) : Option (Int32 × St) := f_X11_of_b47 σ x1 x2 (0 : Int32)
def f_X11_of (σ : St) (p1 : Int32) (p2 : Int32) : Option (Int32 × St) := if p2 = (5 : Int32) then (bnd2 (f_X6_has σ p1) (fun r7 σ8 => if r7 = 0 then (some ((-1 : Int32), σ8)) else (chk (p1 < 0 ∨ 10 ≤ p1.toNatClampNeg) (some (σ8.2.2.1 301 0 p1.toNatClampNeg, σ8))))) else (if p2 = (1 : Int32) then (bnd1 (f_X11_twoLetters p1) (fun r4 => if r4 = 0 then (f_X11_of_b46 σ p1 p2) else (f_X11_of_b47 σ p1 p2 (1 : Int32)))) else (f_X11_of_b46 σ p1 p2))
set_option maxHeartbeats 4000000 in
set_option maxRecDepth 100000 in
theorem w_X11_of_b61 {p : Program} {l : Launch} {e : Env} {s : State} {m : MethodId} {args : Array Value} {below : List Frame} {meth : Method} {c : Code} {g : va_G} {ts : ClassId × ClassId × ClassId} {A : Nat → Prop} {Q : State → Prop} {a : Nat → Nat} {r : Int32} {σ' : St} (C : FX p s m args meth c RX11 cX11_of 4 g ts A) (hQ : RetI p l e (rk 3 63) s m args below meth c cX11_of g (WC ts a) A r σ' Q) : ∀ (σ : St) (x1 : Int32) (x2 : Int32) (H : Heap) (locs : List Loc) (ls : Array Slot), f_X11_of_b61 σ x1 x2 = some (r, σ') → va_P g classes (WC ts a σ) H → va_D A (WC ts a σ) → va_S A s.heap H locs → lv_has ls 4 [(0, .ref (a 0)), (1, .int x1), (2, .int x2)] → W p l e (rk 3 63) s m args below meth c H locs 0 0 Q (F0 m 61 ls []) := by
  have hx := C.1
  have hb := C.2.1
  have hown := C.2.2.2.1
  have hts := C.2.2.2.2.1
  intro σ x1 x2 H locs ls hf hP hD hS hl
  rw [f_X11_of_b61] at hf
  refine lv_aload_n hx hb dX11_of_61 rfl (lv_at hl 0 rfl) ?_
  refine lv_iload_n hx hb dX11_of_62 rfl (lv_at hl 1 rfl) ?_
  refine lv_iload_n hx hb dX11_of_63 rfl (lv_at hl 2 rfl) ?_
  obtain ⟨r17, σ18, h16, hf⟩ := bnd2_some hf
  refine vI [] C hP hD hS (c_X11_told h16) mv_X11_told q_476 rv_X11 dX11_of_64 ⟨Nat.le_of_ble_eq_true rfl, Nat.le_of_ble_eq_true rfl⟩ ⟨Nat.zero_le _, Nat.zero_le _⟩ rfl rfl (Nat.le_of_ble_eq_true rfl) hl.1 (fun H locs hP hD hS => ?_)
  refine lv_goto (tgt := 71) hx hb dX11_of_67 (by decide) ?_
  exact retI hQ hf dX11_of_71 hP hD hS
set_option maxHeartbeats 4000000 in
set_option maxRecDepth 100000 in
theorem w_X11_of_b47 {p : Program} {l : Launch} {e : Env} {s : State} {m : MethodId} {args : Array Value} {below : List Frame} {meth : Method} {c : Code} {g : va_G} {ts : ClassId × ClassId × ClassId} {A : Nat → Prop} {Q : State → Prop} {a : Nat → Nat} {r : Int32} {σ' : St} (C : FX p s m args meth c RX11 cX11_of 4 g ts A) (hQ : RetI p l e (rk 3 63) s m args below meth c cX11_of g (WC ts a) A r σ' Q) : ∀ (σ : St) (x1 : Int32) (x2 : Int32) (s0 : Int32) (H : Heap) (locs : List Loc) (ls : Array Slot), f_X11_of_b47 σ x1 x2 s0 = some (r, σ') → va_P g classes (WC ts a σ) H → va_D A (WC ts a σ) → va_S A s.heap H locs → lv_has ls 4 [(0, .ref (a 0)), (1, .int x1), (2, .int x2)] → W p l e (rk 3 63) s m args below meth c H locs 0 0 Q (F0 m 47 ls [.int s0]) := by
  have hx := C.1
  have hb := C.2.1
  have hown := C.2.2.2.1
  have hts := C.2.2.2.2.1
  intro σ x1 x2 s0 H locs ls hf hP hD hS hl
  rw [f_X11_of_b47] at hf
  refine lv_istore_n (lv' := [(3, .int s0), (0, .ref (a 0)), (1, .int x1), (2, .int x2)]) hx hb dX11_of_47 rfl hl (by decide) rfl (fun ls hl => ?_)
  refine lv_iload_n hx hb dX11_of_48 rfl (lv_at hl 0 rfl) ?_
  refine lv_if_ne (tgt := 61) hx hb dX11_of_49 (by decide) (fun c11 => ?_) (fun c11 => ?_)
  · replace hf := ineg c11 hf
    exact w_X11_of_b61 C hQ _ _ _ _ _ _ hf hP hD hS (lv_sub hl [1, 2, 3] rfl)
  · replace hf := ipos c11 hf
    refine lv_aload_n hx hb dX11_of_52 rfl (lv_at hl 1 rfl) ?_
    refine lv_iload_n hx hb dX11_of_53 rfl (lv_at hl 2 rfl) ?_
    refine lv_iload_n hx hb dX11_of_54 rfl (lv_at hl 3 rfl) ?_
    obtain ⟨r13, σ14, h12, hf⟩ := bnd2_some hf
    refine vI [] C hP hD hS (c_X11_mendable h12) mv_X11_mendable q_461 rv_X11 dX11_of_55 ⟨Nat.le_of_ble_eq_true rfl, Nat.le_of_ble_eq_true rfl⟩ ⟨Nat.zero_le _, Nat.zero_le _⟩ rfl rfl (Nat.le_of_ble_eq_true rfl) hl.1 (fun H locs hP hD hS => ?_)
    refine lv_if_eq (tgt := 70) hx hb dX11_of_58 (by decide) (fun c15 => ?_) (fun c15 => ?_)
    · replace hf := ipos c15 hf
      refine lv_iconst (v := -1) hx hb dX11_of_70 (by decide) ?_
      exact retI hQ hf dX11_of_71 hP hD hS
    · replace hf := ineg c15 hf
      exact w_X11_of_b61 C hQ _ _ _ _ _ _ hf hP hD hS (lv_sub hl [1, 2, 3] rfl)
set_option maxHeartbeats 4000000 in
set_option maxRecDepth 100000 in
theorem w_X11_of_b46 {p : Program} {l : Launch} {e : Env} {s : State} {m : MethodId} {args : Array Value} {below : List Frame} {meth : Method} {c : Code} {g : va_G} {ts : ClassId × ClassId × ClassId} {A : Nat → Prop} {Q : State → Prop} {a : Nat → Nat} {r : Int32} {σ' : St} (C : FX p s m args meth c RX11 cX11_of 4 g ts A) (hQ : RetI p l e (rk 3 63) s m args below meth c cX11_of g (WC ts a) A r σ' Q) : ∀ (σ : St) (x1 : Int32) (x2 : Int32) (H : Heap) (locs : List Loc) (ls : Array Slot), f_X11_of_b46 σ x1 x2 = some (r, σ') → va_P g classes (WC ts a σ) H → va_D A (WC ts a σ) → va_S A s.heap H locs → lv_has ls 4 [(0, .ref (a 0)), (1, .int x1), (2, .int x2)] → W p l e (rk 3 63) s m args below meth c H locs 0 0 Q (F0 m 46 ls []) := by
  have hx := C.1
  have hb := C.2.1
  have hown := C.2.2.2.1
  have hts := C.2.2.2.2.1
  intro σ x1 x2 H locs ls hf hP hD hS hl
  rw [f_X11_of_b46] at hf
  refine lv_iconst (v := 0) hx hb dX11_of_46 (by decide) ?_
  exact w_X11_of_b47 C hQ _ _ _ _ _ _ _ hf hP hD hS (lv_sub hl [0, 1, 2] rfl)
set_option maxHeartbeats 4000000 in
set_option maxRecDepth 100000 in
theorem c_X11_of {l : Launch} {g : va_G} {ts : ClassId × ClassId × ClassId} {a : Nat → Nat} {σ : St} {p1 : Int32} {p2 : Int32} {r : Int32} {σ' : St} (hf : f_X11_of σ p1 p2 = some (r, σ')) : ConI l g ts (WC ts a) yX11_of cX11_of 4 (some .int) (rk 3 63) σ [.ref (a 0), .int p1, .int p2] r σ' := by
  refine ConI_mk .int rfl rfl rfl rfl (by decide) (Nat.le_of_ble_eq_true rfl) ?_
  intro p e s m below meth c A Q ls C hQ hP hD hS hl
  have C : FX p s m _ meth c RX11 cX11_of 4 g ts A := C
  have hx := C.1
  have hb := C.2.1
  have hown := C.2.2.2.1
  have hts := C.2.2.2.2.1
  have hl : lv_has ls 4 [(0, .ref (a 0)), (1, .int p1), (2, .int p2)] := hl
  rw [f_X11_of] at hf
  refine lv_iload_n hx hb dX11_of_0 rfl (lv_at hl 2 rfl) ?_
  refine lv_iconst (v := 5) hx hb dX11_of_1 (by decide) ?_
  refine lv_icmp_ne (tgt := 30) hx hb dX11_of_2 (by decide) (fun c1 => ?_) (fun c1 => ?_)
  · replace hf := ineg c1 hf
    refine lv_iload_n hx hb dX11_of_30 rfl (lv_at hl 2 rfl) ?_
    refine lv_iconst (v := 1) hx hb dX11_of_31 (by decide) ?_
    refine lv_icmp_ne (tgt := 46) hx hb dX11_of_32 (by decide) (fun c2 => ?_) (fun c2 => ?_)
    · replace hf := ineg c2 hf
      exact w_X11_of_b46 C hQ _ _ _ _ _ _ hf hP hD hS (lv_sub hl [0, 1, 2] rfl)
    · replace hf := ipos c2 hf
      refine lv_iload_n hx hb dX11_of_35 rfl (lv_at hl 1 rfl) ?_
      obtain ⟨r4, h3, hf⟩ := bnd1_some hf
      refine tI [] C hP hD hS (c_X11_twoLetters h3) ms_X11_twoLetters q_469 dX11_of_36 ⟨Nat.le_of_ble_eq_true rfl, Nat.le_of_ble_eq_true rfl⟩ ⟨Nat.zero_le _, Nat.zero_le _⟩ rfl rfl (Nat.le_of_ble_eq_true rfl) hl.1 (fun H locs hP hD hS => ?_)
      refine lv_if_eq (tgt := 46) hx hb dX11_of_39 (by decide) (fun c5 => ?_) (fun c5 => ?_)
      · replace hf := ipos c5 hf
        exact w_X11_of_b46 C hQ _ _ _ _ _ _ hf hP hD hS (lv_sub hl [0, 1, 2] rfl)
      · replace hf := ineg c5 hf
        refine lv_iconst (v := 1) hx hb dX11_of_42 (by decide) ?_
        refine lv_goto (tgt := 47) hx hb dX11_of_43 (by decide) ?_
        exact w_X11_of_b47 C hQ _ _ _ _ _ _ _ hf hP hD hS (lv_sub hl [0, 1, 2] rfl)
  · replace hf := ipos c1 hf
    refine lv_aload_n hx hb dX11_of_5 rfl (lv_at hl 0 rfl) ?_
    refine G_X11_names C hP q_381 dX11_of_6 ?_
    refine lv_iload_n hx hb dX11_of_9 rfl (lv_at hl 1 rfl) ?_
    obtain ⟨r7, σ8, h6, hf⟩ := bnd2_some hf
    refine vI [] C hP hD hS (c_X6_has h6) mv_X6_has q_465 rv_X6 dX11_of_10 ⟨Nat.le_of_ble_eq_true rfl, Nat.le_of_ble_eq_true rfl⟩ ⟨Nat.zero_le _, Nat.zero_le _⟩ rfl rfl (Nat.le_of_ble_eq_true rfl) hl.1 (fun H locs hP hD hS => ?_)
    refine lv_if_eq (tgt := 28) hx hb dX11_of_13 (by decide) (fun c9 => ?_) (fun c9 => ?_)
    · replace hf := ipos c9 hf
      refine lv_iconst (v := -1) hx hb dX11_of_28 (by decide) ?_
      exact retI hQ hf dX11_of_29 hP hD hS
    · replace hf := ineg c9 hf
      refine lv_aload_n hx hb dX11_of_16 rfl (lv_at hl 0 rfl) ?_
      refine G_X11_names C hP q_381 dX11_of_17 ?_
      refine G_X6_sizes C hP q_159 dX11_of_20 ?_
      refine lv_iload_n hx hb dX11_of_23 rfl (lv_at hl 1 rfl) ?_
      obtain ⟨h10, hf⟩ := chk_some hf
      refine AL_X6_sizes C hP h10 dX11_of_24 ?_
      refine lv_goto (tgt := 29) hx hb dX11_of_25 (by decide) ?_
      exact retI hQ hf dX11_of_29 hP hD hS
theorem dX11_letter_0 : decode cX11_letter 0 = .ok (.aload_n 0, 1) := by decide +kernel
theorem dX11_letter_1 : decode cX11_letter 1 = .ok (.getfield 19, 3) := by decide +kernel
theorem dX11_letter_4 : decode cX11_letter 4 = .ok (.iload_n 1, 1) := by decide +kernel
theorem dX11_letter_5 : decode cX11_letter 5 = .ok (.invokevirtual 119, 3) := by decide +kernel
theorem dX11_letter_8 : decode cX11_letter 8 = .ok (.ifCond .eq 7, 3) := by decide +kernel
theorem dX11_letter_11 : decode cX11_letter 11 = .ok (.iload_n 2, 1) := by decide +kernel
theorem dX11_letter_12 : decode cX11_letter 12 = .ok (.ifCond .ge 5, 3) := by decide +kernel
theorem dX11_letter_15 : decode cX11_letter 15 = .ok (.iconst (-1), 1) := by decide +kernel
theorem dX11_letter_16 : decode cX11_letter 16 = .ok (.ireturn, 1) := by decide +kernel
theorem dX11_letter_17 : decode cX11_letter 17 = .ok (.iload_n 2, 1) := by decide +kernel
theorem dX11_letter_18 : decode cX11_letter 18 = .ok (.aload_n 0, 1) := by decide +kernel
theorem dX11_letter_19 : decode cX11_letter 19 = .ok (.getfield 19, 3) := by decide +kernel
theorem dX11_letter_22 : decode cX11_letter 22 = .ok (.getfield 123, 3) := by decide +kernel
theorem dX11_letter_25 : decode cX11_letter 25 = .ok (.iload_n 1, 1) := by decide +kernel
theorem dX11_letter_26 : decode cX11_letter 26 = .ok (.iaload, 1) := by decide +kernel
theorem dX11_letter_27 : decode cX11_letter 27 = .ok (.if_icmp .ge 15, 3) := by decide +kernel
theorem dX11_letter_30 : decode cX11_letter 30 = .ok (.aload_n 0, 1) := by decide +kernel
theorem dX11_letter_31 : decode cX11_letter 31 = .ok (.getfield 19, 3) := by decide +kernel
theorem dX11_letter_34 : decode cX11_letter 34 = .ok (.iload_n 1, 1) := by decide +kernel
theorem dX11_letter_35 : decode cX11_letter 35 = .ok (.iload_n 2, 1) := by decide +kernel
theorem dX11_letter_36 : decode cX11_letter 36 = .ok (.invokevirtual 130, 3) := by decide +kernel
theorem dX11_letter_39 : decode cX11_letter 39 = .ok (.goto 5, 3) := by decide +kernel
theorem dX11_letter_42 : decode cX11_letter 42 = .ok (.bipush (-2), 2) := by decide +kernel
theorem dX11_letter_44 : decode cX11_letter 44 = .ok (.ireturn, 1) := by decide +kernel
def f_X11_letter (σ : St) (p1 : Int32) (p2 : Int32) : Option (Int32 × St) := bnd2 (f_X6_has σ p1) (fun r2 σ3 => if r2 = 0 then (some ((-1 : Int32), σ3)) else (if 0 ≤ p2 then (chk (p1 < 0 ∨ 10 ≤ p1.toNatClampNeg) (if σ3.2.2.1 301 0 p1.toNatClampNeg ≤ p2 then (some ((-2 : Int32), σ3)) else (bnd2 (f_X6_at σ3 p1 p2) (fun r9 σ10 => some (r9, σ10))))) else (some ((-1 : Int32), σ3))))
set_option maxHeartbeats 4000000 in
set_option maxRecDepth 100000 in
theorem c_X11_letter {l : Launch} {g : va_G} {ts : ClassId × ClassId × ClassId} {a : Nat → Nat} {σ : St} {p1 : Int32} {p2 : Int32} {r : Int32} {σ' : St} (hf : f_X11_letter σ p1 p2 = some (r, σ')) : ConI l g ts (WC ts a) yX11_letter cX11_letter 3 (some .int) (rk 1 22) σ [.ref (a 0), .int p1, .int p2] r σ' := by
  refine ConI_mk .int rfl rfl rfl rfl (by decide) (Nat.le_of_ble_eq_true rfl) ?_
  intro p e s m below meth c A Q ls C hQ hP hD hS hl
  have C : FX p s m _ meth c RX11 cX11_letter 3 g ts A := C
  have hx := C.1
  have hb := C.2.1
  have hown := C.2.2.2.1
  have hts := C.2.2.2.2.1
  have hl : lv_has ls 3 [(0, .ref (a 0)), (1, .int p1), (2, .int p2)] := hl
  rw [f_X11_letter] at hf
  refine lv_aload_n hx hb dX11_letter_0 rfl (lv_at hl 0 rfl) ?_
  refine G_X11_names C hP q_381 dX11_letter_1 ?_
  refine lv_iload_n hx hb dX11_letter_4 rfl (lv_at hl 1 rfl) ?_
  obtain ⟨r2, σ3, h1, hf⟩ := bnd2_some hf
  refine vI [] C hP hD hS (c_X6_has h1) mv_X6_has q_465 rv_X6 dX11_letter_5 ⟨Nat.le_of_ble_eq_true rfl, Nat.le_of_ble_eq_true rfl⟩ ⟨Nat.zero_le _, Nat.zero_le _⟩ rfl rfl (Nat.le_of_ble_eq_true rfl) hl.1 (fun H locs hP hD hS => ?_)
  refine lv_if_eq (tgt := 15) hx hb dX11_letter_8 (by decide) (fun c4 => ?_) (fun c4 => ?_)
  · replace hf := ipos c4 hf
    refine lv_iconst (v := -1) hx hb dX11_letter_15 (by decide) ?_
    exact retI hQ hf dX11_letter_16 hP hD hS
  · replace hf := ineg c4 hf
    refine lv_iload_n hx hb dX11_letter_11 rfl (lv_at hl 2 rfl) ?_
    refine lv_if_ge (tgt := 17) hx hb dX11_letter_12 (by decide) (fun c5 => ?_) (fun c5 => ?_)
    · replace hf := ipos c5 hf
      refine lv_iload_n hx hb dX11_letter_17 rfl (lv_at hl 2 rfl) ?_
      refine lv_aload_n hx hb dX11_letter_18 rfl (lv_at hl 0 rfl) ?_
      refine G_X11_names C hP q_381 dX11_letter_19 ?_
      refine G_X6_sizes C hP q_159 dX11_letter_22 ?_
      refine lv_iload_n hx hb dX11_letter_25 rfl (lv_at hl 1 rfl) ?_
      obtain ⟨h6, hf⟩ := chk_some hf
      refine AL_X6_sizes C hP h6 dX11_letter_26 ?_
      refine lv_icmp_ge (tgt := 42) hx hb dX11_letter_27 (by decide) (fun c7 => ?_) (fun c7 => ?_)
      · replace hf := ipos c7 hf
        refine lv_bipush (v := -2) hx hb dX11_letter_42 (by decide) ?_
        exact retI hQ hf dX11_letter_44 hP hD hS
      · replace hf := ineg c7 hf
        refine lv_aload_n hx hb dX11_letter_30 rfl (lv_at hl 0 rfl) ?_
        refine G_X11_names C hP q_381 dX11_letter_31 ?_
        refine lv_iload_n hx hb dX11_letter_34 rfl (lv_at hl 1 rfl) ?_
        refine lv_iload_n hx hb dX11_letter_35 rfl (lv_at hl 2 rfl) ?_
        obtain ⟨r9, σ10, h8, hf⟩ := bnd2_some hf
        refine vI [] C hP hD hS (c_X6_at h8) mv_X6_at q_504 rv_X6 dX11_letter_36 ⟨Nat.le_of_ble_eq_true rfl, Nat.le_of_ble_eq_true rfl⟩ ⟨Nat.zero_le _, Nat.zero_le _⟩ rfl rfl (Nat.le_of_ble_eq_true rfl) hl.1 (fun H locs hP hD hS => ?_)
        refine lv_goto (tgt := 44) hx hb dX11_letter_39 (by decide) ?_
        exact retI hQ hf dX11_letter_44 hP hD hS
    · replace hf := ineg c5 hf
      refine lv_iconst (v := -1) hx hb dX11_letter_15 (by decide) ?_
      exact retI hQ hf dX11_letter_16 hP hD hS
theorem dX11_feed_0 : decode cX11_feed 0 = .ok (.iload_n 1, 1) := by decide +kernel
theorem dX11_feed_1 : decode cX11_feed 1 = .ok (.ifCond .lt 10, 3) := by decide +kernel
theorem dX11_feed_4 : decode cX11_feed 4 = .ok (.iload_n 1, 1) := by decide +kernel
theorem dX11_feed_5 : decode cX11_feed 5 = .ok (.sipush 255, 3) := by decide +kernel
theorem dX11_feed_8 : decode cX11_feed 8 = .ok (.if_icmp .le 5, 3) := by decide +kernel
theorem dX11_feed_11 : decode cX11_feed 11 = .ok (.iconst (-1), 1) := by decide +kernel
theorem dX11_feed_12 : decode cX11_feed 12 = .ok (.ireturn, 1) := by decide +kernel
theorem dX11_feed_13 : decode cX11_feed 13 = .ok (.aload_n 0, 1) := by decide +kernel
theorem dX11_feed_14 : decode cX11_feed 14 = .ok (.getfield 51, 3) := by decide +kernel
theorem dX11_feed_17 : decode cX11_feed 17 = .ok (.iload_n 1, 1) := by decide +kernel
theorem dX11_feed_18 : decode cX11_feed 18 = .ok (.invokevirtual 133, 3) := by decide +kernel
theorem dX11_feed_21 : decode cX11_feed 21 = .ok (.ifCond .eq 13, 3) := by decide +kernel
theorem dX11_feed_24 : decode cX11_feed 24 = .ok (.aload_n 0, 1) := by decide +kernel
theorem dX11_feed_25 : decode cX11_feed 25 = .ok (.getfield 51, 3) := by decide +kernel
theorem dX11_feed_28 : decode cX11_feed 28 = .ok (.getfield 136, 3) := by decide +kernel
theorem dX11_feed_31 : decode cX11_feed 31 = .ok (.goto 5, 3) := by decide +kernel
theorem dX11_feed_34 : decode cX11_feed 34 = .ok (.bipush (-3), 2) := by decide +kernel
theorem dX11_feed_36 : decode cX11_feed 36 = .ok (.ireturn, 1) := by decide +kernel
def f_X11_feed (σ : St) (p1 : Int32) : Option (Int32 × St) := if p1 < 0 then (some ((-1 : Int32), σ)) else (if p1 ≤ (255 : Int32) then (bnd2 (f_X7_take σ p1) (fun r4 σ5 => if r4 = 0 then (some ((-3 : Int32), σ5)) else (some (σ5.1 351 0, σ5)))) else (some ((-1 : Int32), σ)))
set_option maxHeartbeats 4000000 in
set_option maxRecDepth 100000 in
theorem c_X11_feed {l : Launch} {g : va_G} {ts : ClassId × ClassId × ClassId} {a : Nat → Nat} {σ : St} {p1 : Int32} {r : Int32} {σ' : St} (hf : f_X11_feed σ p1 = some (r, σ')) : ConI l g ts (WC ts a) yX11_feed cX11_feed 2 (some .int) (rk 1 21) σ [.ref (a 0), .int p1] r σ' := by
  refine ConI_mk .int rfl rfl rfl rfl (by decide) (Nat.le_of_ble_eq_true rfl) ?_
  intro p e s m below meth c A Q ls C hQ hP hD hS hl
  have C : FX p s m _ meth c RX11 cX11_feed 2 g ts A := C
  have hx := C.1
  have hb := C.2.1
  have hown := C.2.2.2.1
  have hts := C.2.2.2.2.1
  have hl : lv_has ls 2 [(0, .ref (a 0)), (1, .int p1)] := hl
  rw [f_X11_feed] at hf
  refine lv_iload_n hx hb dX11_feed_0 rfl (lv_at hl 1 rfl) ?_
  refine lv_if_lt (tgt := 11) hx hb dX11_feed_1 (by decide) (fun c1 => ?_) (fun c1 => ?_)
  · replace hf := ipos c1 hf
    refine lv_iconst (v := -1) hx hb dX11_feed_11 (by decide) ?_
    exact retI hQ hf dX11_feed_12 hP hD hS
  · replace hf := ineg c1 hf
    refine lv_iload_n hx hb dX11_feed_4 rfl (lv_at hl 1 rfl) ?_
    refine lv_sipush (v := 255) hx hb dX11_feed_5 (by decide) ?_
    refine lv_icmp_le (tgt := 13) hx hb dX11_feed_8 (by decide) (fun c2 => ?_) (fun c2 => ?_)
    · replace hf := ipos c2 hf
      refine lv_aload_n hx hb dX11_feed_13 rfl (lv_at hl 0 rfl) ?_
      refine G_X11_reader C hP q_385 dX11_feed_14 ?_
      refine lv_iload_n hx hb dX11_feed_17 rfl (lv_at hl 1 rfl) ?_
      obtain ⟨r4, σ5, h3, hf⟩ := bnd2_some hf
      refine vI [] C hP hD hS (c_X7_take h3) mv_X7_take q_512 rv_X7 dX11_feed_18 ⟨Nat.le_of_ble_eq_true rfl, Nat.le_of_ble_eq_true rfl⟩ ⟨Nat.zero_le _, Nat.zero_le _⟩ rfl rfl (Nat.le_of_ble_eq_true rfl) hl.1 (fun H locs hP hD hS => ?_)
      refine lv_if_eq (tgt := 34) hx hb dX11_feed_21 (by decide) (fun c6 => ?_) (fun c6 => ?_)
      · replace hf := ipos c6 hf
        refine lv_bipush (v := -3) hx hb dX11_feed_34 (by decide) ?_
        exact retI hQ hf dX11_feed_36 hP hD hS
      · replace hf := ineg c6 hf
        refine lv_aload_n hx hb dX11_feed_24 rfl (lv_at hl 0 rfl) ?_
        refine G_X11_reader C hP q_385 dX11_feed_25 ?_
        refine G_X7_length C hP q_247 dX11_feed_28 ?_
        refine lv_goto (tgt := 36) hx hb dX11_feed_31 (by decide) ?_
        exact retI hQ hf dX11_feed_36 hP hD hS
    · replace hf := ineg c2 hf
      refine lv_iconst (v := -1) hx hb dX11_feed_11 (by decide) ?_
      exact retI hQ hf dX11_feed_12 hP hD hS
theorem dX11_heard_0 : decode cX11_heard 0 = .ok (.iload_n 1, 1) := by decide +kernel
theorem dX11_heard_1 : decode cX11_heard 1 = .ok (.invokestatic 127, 3) := by decide +kernel
theorem dX11_heard_4 : decode cX11_heard 4 = .ok (.ifCond .eq 20, 3) := by decide +kernel
theorem dX11_heard_7 : decode cX11_heard 7 = .ok (.iload_n 2, 1) := by decide +kernel
theorem dX11_heard_8 : decode cX11_heard 8 = .ok (.ifCond .lt 16, 3) := by decide +kernel
theorem dX11_heard_11 : decode cX11_heard 11 = .ok (.iload_n 2, 1) := by decide +kernel
theorem dX11_heard_12 : decode cX11_heard 12 = .ok (.bipush 9, 2) := by decide +kernel
theorem dX11_heard_14 : decode cX11_heard 14 = .ok (.if_icmp .gt 10, 3) := by decide +kernel
theorem dX11_heard_17 : decode cX11_heard 17 = .ok (.iload_n 3, 1) := by decide +kernel
theorem dX11_heard_18 : decode cX11_heard 18 = .ok (.invokestatic 150, 3) := by decide +kernel
theorem dX11_heard_21 : decode cX11_heard 21 = .ok (.ifCond .ne 7, 3) := by decide +kernel
theorem dX11_heard_24 : decode cX11_heard 24 = .ok (.ldc2_w 153, 3) := by decide +kernel
theorem dX11_heard_27 : decode cX11_heard 27 = .ok (.lreturn, 1) := by decide +kernel
theorem dX11_heard_28 : decode cX11_heard 28 = .ok (.iload_n 1, 1) := by decide +kernel
theorem dX11_heard_29 : decode cX11_heard 29 = .ok (.bipush 100, 2) := by decide +kernel
theorem dX11_heard_31 : decode cX11_heard 31 = .ok (.idiv, 1) := by decide +kernel
theorem dX11_heard_32 : decode cX11_heard 32 = .ok (.istore 4, 2) := by decide +kernel
theorem dX11_heard_34 : decode cX11_heard 34 = .ok (.iload_n 1, 1) := by decide +kernel
theorem dX11_heard_35 : decode cX11_heard 35 = .ok (.bipush 100, 2) := by decide +kernel
theorem dX11_heard_37 : decode cX11_heard 37 = .ok (.irem, 1) := by decide +kernel
theorem dX11_heard_38 : decode cX11_heard 38 = .ok (.istore 5, 2) := by decide +kernel
theorem dX11_heard_40 : decode cX11_heard 40 = .ok (.aload_n 0, 1) := by decide +kernel
theorem dX11_heard_41 : decode cX11_heard 41 = .ok (.getfield 10, 3) := by decide +kernel
theorem dX11_heard_44 : decode cX11_heard 44 = .ok (.iload 4, 2) := by decide +kernel
theorem dX11_heard_46 : decode cX11_heard 46 = .ok (.iload_n 2, 1) := by decide +kernel
theorem dX11_heard_47 : decode cX11_heard 47 = .ok (.invokevirtual 155, 3) := by decide +kernel
theorem dX11_heard_50 : decode cX11_heard 50 = .ok (.istore 6, 2) := by decide +kernel
theorem dX11_heard_52 : decode cX11_heard 52 = .ok (.iload 6, 2) := by decide +kernel
theorem dX11_heard_54 : decode cX11_heard 54 = .ok (.ifCond .ne 21, 3) := by decide +kernel
theorem dX11_heard_57 : decode cX11_heard 57 = .ok (.iload 4, 2) := by decide +kernel
theorem dX11_heard_59 : decode cX11_heard 59 = .ok (.iload 5, 2) := by decide +kernel
theorem dX11_heard_61 : decode cX11_heard 61 = .ok (.if_icmp .ne 7, 3) := by decide +kernel
theorem dX11_heard_64 : decode cX11_heard 64 = .ok (.lconst 1, 1) := by decide +kernel
theorem dX11_heard_65 : decode cX11_heard 65 = .ok (.goto 4, 3) := by decide +kernel
theorem dX11_heard_68 : decode cX11_heard 68 = .ok (.lconst 0, 1) := by decide +kernel
theorem dX11_heard_69 : decode cX11_heard 69 = .ok (.lconst 1, 1) := by decide +kernel
theorem dX11_heard_70 : decode cX11_heard 70 = .ok (.iload_n 3, 1) := by decide +kernel
theorem dX11_heard_71 : decode cX11_heard 71 = .ok (.invokestatic 158, 3) := by decide +kernel
theorem dX11_heard_74 : decode cX11_heard 74 = .ok (.lreturn, 1) := by decide +kernel
theorem dX11_heard_75 : decode cX11_heard 75 = .ok (.aload_n 0, 1) := by decide +kernel
theorem dX11_heard_76 : decode cX11_heard 76 = .ok (.getfield 10, 3) := by decide +kernel
theorem dX11_heard_79 : decode cX11_heard 79 = .ok (.iload 4, 2) := by decide +kernel
theorem dX11_heard_81 : decode cX11_heard 81 = .ok (.iload 5, 2) := by decide +kernel
theorem dX11_heard_83 : decode cX11_heard 83 = .ok (.iload_n 2, 1) := by decide +kernel
theorem dX11_heard_84 : decode cX11_heard 84 = .ok (.invokevirtual 162, 3) := by decide +kernel
theorem dX11_heard_87 : decode cX11_heard 87 = .ok (.i2l, 1) := by decide +kernel
theorem dX11_heard_88 : decode cX11_heard 88 = .ok (.iload 6, 2) := by decide +kernel
theorem dX11_heard_90 : decode cX11_heard 90 = .ok (.i2l, 1) := by decide +kernel
theorem dX11_heard_91 : decode cX11_heard 91 = .ok (.iload_n 3, 1) := by decide +kernel
theorem dX11_heard_92 : decode cX11_heard 92 = .ok (.invokestatic 158, 3) := by decide +kernel
theorem dX11_heard_95 : decode cX11_heard 95 = .ok (.lreturn, 1) := by decide +kernel
def f_X11_heard_b69 (σ : St) (x3 : Int32) (s0 : Int64) : Option (Int64 × St) := bnd1 (f_X11_lowest s0 (1 : Int64) x3) (fun r22 => some (r22, σ))
def f_X11_heard (σ : St) (p1 : Int32) (p2 : Int32) (p3 : Int32) : Option (Int64 × St) := bnd1 (f_X11_twoLetters p1) (fun r2 => if r2 = 0 then (some ((-9223372036854775808 : Int64), σ)) else (if p2 < 0 then (some ((-9223372036854775808 : Int64), σ)) else (if (9 : Int32) < p2 then (some ((-9223372036854775808 : Int64), σ)) else (bnd1 (f_X11_fractionPart p3) (fun r7 => if r7 = 0 then (some ((-9223372036854775808 : Int64), σ)) else (bnd (p1 / (100 : Int32)) (fun v9 => bnd (p1 - p1 / (100 : Int32) * (100 : Int32)) (fun v10 => bnd2 (f_X5_total σ v9 p2) (fun r12 σ13 => if r12 = 0 then (if v9 = v10 then (f_X11_heard_b69 σ13 p3 (1 : Int64)) else (f_X11_heard_b69 σ13 p3 (0 : Int64))) else (bnd2 (f_X5_weight σ13 v9 v10 p2) (fun r16 σ17 => bnd1 (f_X11_lowest ((r16 : Int32).toInt64) ((r12 : Int32).toInt64) p3) (fun r19 => some (r19, σ17)))))))))))))
set_option maxHeartbeats 4000000 in
set_option maxRecDepth 100000 in
theorem w_X11_heard_b69 {p : Program} {l : Launch} {e : Env} {s : State} {m : MethodId} {args : Array Value} {below : List Frame} {meth : Method} {c : Code} {g : va_G} {ts : ClassId × ClassId × ClassId} {A : Nat → Prop} {Q : State → Prop} {a : Nat → Nat} {r : Int64} {σ' : St} (C : FX p s m args meth c RX11 cX11_heard 7 g ts A) (hQ : RetL p l e (rk 4 105) s m args below meth c cX11_heard g (WC ts a) A r σ' Q) : ∀ (σ : St) (x3 : Int32) (s0 : Int64) (H : Heap) (locs : List Loc) (ls : Array Slot), f_X11_heard_b69 σ x3 s0 = some (r, σ') → va_P g classes (WC ts a σ) H → va_D A (WC ts a σ) → va_S A s.heap H locs → lv_has ls 7 [(3, .int x3)] → W p l e (rk 4 105) s m args below meth c H locs 0 0 Q (F0 m 69 ls [.long s0]) := by
  have hx := C.1
  have hb := C.2.1
  have hown := C.2.2.2.1
  have hts := C.2.2.2.2.1
  intro σ x3 s0 H locs ls hf hP hD hS hl
  rw [f_X11_heard_b69] at hf
  refine lv_lconst (v := 1) hx hb dX11_heard_69 (by decide) ?_
  refine lv_iload_n hx hb dX11_heard_70 rfl (lv_at hl 0 rfl) ?_
  obtain ⟨r22, h21, hf⟩ := bnd1_some hf
  refine tL [] C hP hD hS (c_X11_lowest h21) ms_X11_lowest q_679 dX11_heard_71 ⟨Nat.le_of_ble_eq_true rfl, Nat.le_of_ble_eq_true rfl⟩ ⟨Nat.zero_le _, Nat.zero_le _⟩ rfl rfl (Nat.le_of_ble_eq_true rfl) hl.1 (fun H locs hP hD hS => ?_)
  exact retL hQ hf dX11_heard_74 hP hD hS
set_option maxHeartbeats 4000000 in
set_option maxRecDepth 100000 in
theorem c_X11_heard {l : Launch} {g : va_G} {ts : ClassId × ClassId × ClassId} {a : Nat → Nat} {σ : St} {p1 : Int32} {p2 : Int32} {p3 : Int32} {r : Int64} {σ' : St} (hf : f_X11_heard σ p1 p2 p3 = some (r, σ')) : ConL l g ts (WC ts a) yX11_heard cX11_heard 7 (some .long) (rk 4 105) σ [.ref (a 0), .int p1, .int p2, .int p3] r σ' := by
  refine ConL_mk rfl rfl (by decide) (Nat.le_of_ble_eq_true rfl) ?_
  intro p e s m below meth c A Q ls C hQ hP hD hS hl
  have C : FX p s m _ meth c RX11 cX11_heard 7 g ts A := C
  have hx := C.1
  have hb := C.2.1
  have hown := C.2.2.2.1
  have hts := C.2.2.2.2.1
  have hl : lv_has ls 7 [(0, .ref (a 0)), (1, .int p1), (2, .int p2), (3, .int p3)] := hl
  rw [f_X11_heard] at hf
  refine lv_iload_n hx hb dX11_heard_0 rfl (lv_at hl 1 rfl) ?_
  obtain ⟨r2, h1, hf⟩ := bnd1_some hf
  refine tI [] C hP hD hS (c_X11_twoLetters h1) ms_X11_twoLetters q_469 dX11_heard_1 ⟨Nat.le_of_ble_eq_true rfl, Nat.le_of_ble_eq_true rfl⟩ ⟨Nat.zero_le _, Nat.zero_le _⟩ rfl rfl (Nat.le_of_ble_eq_true rfl) hl.1 (fun H locs hP hD hS => ?_)
  refine lv_if_eq (tgt := 24) hx hb dX11_heard_4 (by decide) (fun c3 => ?_) (fun c3 => ?_)
  · replace hf := ipos c3 hf
    refine lv_ldc2 hx hb hown (hts _ q_661) dX11_heard_24 ?_
    exact retL hQ hf dX11_heard_27 hP hD hS
  · replace hf := ineg c3 hf
    refine lv_iload_n hx hb dX11_heard_7 rfl (lv_at hl 2 rfl) ?_
    refine lv_if_lt (tgt := 24) hx hb dX11_heard_8 (by decide) (fun c4 => ?_) (fun c4 => ?_)
    · replace hf := ipos c4 hf
      refine lv_ldc2 hx hb hown (hts _ q_661) dX11_heard_24 ?_
      exact retL hQ hf dX11_heard_27 hP hD hS
    · replace hf := ineg c4 hf
      refine lv_iload_n hx hb dX11_heard_11 rfl (lv_at hl 2 rfl) ?_
      refine lv_bipush (v := 9) hx hb dX11_heard_12 (by decide) ?_
      refine lv_icmp_gt (tgt := 24) hx hb dX11_heard_14 (by decide) (fun c5 => ?_) (fun c5 => ?_)
      · replace hf := ipos c5 hf
        refine lv_ldc2 hx hb hown (hts _ q_661) dX11_heard_24 ?_
        exact retL hQ hf dX11_heard_27 hP hD hS
      · replace hf := ineg c5 hf
        refine lv_iload_n hx hb dX11_heard_17 rfl (lv_at hl 3 rfl) ?_
        obtain ⟨r7, h6, hf⟩ := bnd1_some hf
        refine tI [] C hP hD hS (c_X11_fractionPart h6) ms_X11_fractionPart q_658 dX11_heard_18 ⟨Nat.le_of_ble_eq_true rfl, Nat.le_of_ble_eq_true rfl⟩ ⟨Nat.zero_le _, Nat.zero_le _⟩ rfl rfl (Nat.le_of_ble_eq_true rfl) hl.1 (fun H locs hP hD hS => ?_)
        refine lv_if_ne (tgt := 28) hx hb dX11_heard_21 (by decide) (fun c8 => ?_) (fun c8 => ?_)
        · replace hf := ineg c8 hf
          refine lv_iload_n hx hb dX11_heard_28 rfl (lv_at hl 1 rfl) ?_
          refine lv_bipush (v := 100) hx hb dX11_heard_29 (by decide) ?_
          refine lv_idiv hx hb dX11_heard_31 (by decide) ?_
          refine lv_topi (fun v9 ev9 => ?_)
          replace hf := bnd_at ev9 hf
          refine lv_istore (lv' := [(4, .int v9), (0, .ref (a 0)), (1, .int p1), (2, .int p2), (3, .int p3)]) hx hb dX11_heard_32 hl (by decide) rfl (fun ls hl => ?_)
          refine lv_iload_n hx hb dX11_heard_34 rfl (lv_at hl 2 rfl) ?_
          refine lv_bipush (v := 100) hx hb dX11_heard_35 (by decide) ?_
          refine lv_irem hx hb dX11_heard_37 (by decide) ?_
          refine lv_topi (fun v10 ev10 => ?_)
          replace hf := bnd_at ev10 hf
          refine lv_istore (lv' := [(5, .int v10), (4, .int v9), (0, .ref (a 0)), (1, .int p1), (2, .int p2), (3, .int p3)]) hx hb dX11_heard_38 hl (by decide) rfl (fun ls hl => ?_)
          refine lv_aload_n hx hb dX11_heard_40 rfl (lv_at hl 2 rfl) ?_
          refine G_X11_line C hP q_380 dX11_heard_41 ?_
          refine lv_iload hx hb dX11_heard_44 (lv_at hl 1 rfl) ?_
          refine lv_iload_n hx hb dX11_heard_46 rfl (lv_at hl 4 rfl) ?_
          obtain ⟨r12, σ13, h11, hf⟩ := bnd2_some hf
          refine vI [] C hP hD hS (c_X5_total h11) mv_X5_total q_662 rv_X5 dX11_heard_47 ⟨Nat.le_of_ble_eq_true rfl, Nat.le_of_ble_eq_true rfl⟩ ⟨Nat.zero_le _, Nat.zero_le _⟩ rfl rfl (Nat.le_of_ble_eq_true rfl) hl.1 (fun H locs hP hD hS => ?_)
          refine lv_istore (lv' := [(6, .int r12), (5, .int v10), (4, .int v9), (0, .ref (a 0)), (1, .int p1), (2, .int p2), (3, .int p3)]) hx hb dX11_heard_50 hl (by decide) rfl (fun ls hl => ?_)
          refine lv_iload hx hb dX11_heard_52 (lv_at hl 0 rfl) ?_
          refine lv_if_ne (tgt := 75) hx hb dX11_heard_54 (by decide) (fun c14 => ?_) (fun c14 => ?_)
          · replace hf := ineg c14 hf
            refine lv_aload_n hx hb dX11_heard_75 rfl (lv_at hl 3 rfl) ?_
            refine G_X11_line C hP q_380 dX11_heard_76 ?_
            refine lv_iload hx hb dX11_heard_79 (lv_at hl 2 rfl) ?_
            refine lv_iload hx hb dX11_heard_81 (lv_at hl 1 rfl) ?_
            refine lv_iload_n hx hb dX11_heard_83 rfl (lv_at hl 5 rfl) ?_
            obtain ⟨r16, σ17, h15, hf⟩ := bnd2_some hf
            refine vI [] C hP hD hS (c_X5_weight h15) mv_X5_weight q_682 rv_X5 dX11_heard_84 ⟨Nat.le_of_ble_eq_true rfl, Nat.le_of_ble_eq_true rfl⟩ ⟨Nat.zero_le _, Nat.zero_le _⟩ rfl rfl (Nat.le_of_ble_eq_true rfl) hl.1 (fun H locs hP hD hS => ?_)
            refine lv_i2l (v := (r16 : Int32).toInt64) hx hb dX11_heard_87 rfl ?_
            refine lv_iload hx hb dX11_heard_88 (lv_at hl 0 rfl) ?_
            refine lv_i2l (v := (r12 : Int32).toInt64) hx hb dX11_heard_90 rfl ?_
            refine lv_iload_n hx hb dX11_heard_91 rfl (lv_at hl 6 rfl) ?_
            obtain ⟨r19, h18, hf⟩ := bnd1_some hf
            refine tL [] C hP hD hS (c_X11_lowest h18) ms_X11_lowest q_679 dX11_heard_92 ⟨Nat.le_of_ble_eq_true rfl, Nat.le_of_ble_eq_true rfl⟩ ⟨Nat.zero_le _, Nat.zero_le _⟩ rfl rfl (Nat.le_of_ble_eq_true rfl) hl.1 (fun H locs hP hD hS => ?_)
            exact retL hQ hf dX11_heard_95 hP hD hS
          · replace hf := ipos c14 hf
            refine lv_iload hx hb dX11_heard_57 (lv_at hl 2 rfl) ?_
            refine lv_iload hx hb dX11_heard_59 (lv_at hl 1 rfl) ?_
            refine lv_icmp_ne (tgt := 68) hx hb dX11_heard_61 (by decide) (fun c20 => ?_) (fun c20 => ?_)
            · replace hf := ineg c20 hf
              refine lv_lconst (v := 0) hx hb dX11_heard_68 (by decide) ?_
              exact w_X11_heard_b69 C hQ _ _ _ _ _ _ hf hP hD hS (lv_sub hl [6] rfl)
            · replace hf := ipos c20 hf
              refine lv_lconst (v := 1) hx hb dX11_heard_64 (by decide) ?_
              refine lv_goto (tgt := 69) hx hb dX11_heard_65 (by decide) ?_
              exact w_X11_heard_b69 C hQ _ _ _ _ _ _ hf hP hD hS (lv_sub hl [6] rfl)
        · replace hf := ipos c8 hf
          refine lv_ldc2 hx hb hown (hts _ q_661) dX11_heard_24 ?_
          exact retL hQ hf dX11_heard_27 hP hD hS
theorem dX11_likely_0 : decode cX11_likely 0 = .ok (.aload_n 0, 1) := by decide +kernel
theorem dX11_likely_1 : decode cX11_likely 1 = .ok (.getfield 19, 3) := by decide +kernel
theorem dX11_likely_4 : decode cX11_likely 4 = .ok (.iload_n 2, 1) := by decide +kernel
theorem dX11_likely_5 : decode cX11_likely 5 = .ok (.invokevirtual 119, 3) := by decide +kernel
theorem dX11_likely_8 : decode cX11_likely 8 = .ok (.ifCond .eq 18, 3) := by decide +kernel
theorem dX11_likely_11 : decode cX11_likely 11 = .ok (.iload_n 3, 1) := by decide +kernel
theorem dX11_likely_12 : decode cX11_likely 12 = .ok (.invokestatic 150, 3) := by decide +kernel
theorem dX11_likely_15 : decode cX11_likely 15 = .ok (.ifCond .eq 11, 3) := by decide +kernel
theorem dX11_likely_18 : decode cX11_likely 18 = .ok (.aload_n 0, 1) := by decide +kernel
theorem dX11_likely_19 : decode cX11_likely 19 = .ok (.iload_n 1, 1) := by decide +kernel
theorem dX11_likely_20 : decode cX11_likely 20 = .ok (.invokevirtual 86, 3) := by decide +kernel
theorem dX11_likely_23 : decode cX11_likely 23 = .ok (.ifCond .eq 7, 3) := by decide +kernel
theorem dX11_likely_26 : decode cX11_likely 26 = .ok (.ldc2_w 153, 3) := by decide +kernel
theorem dX11_likely_29 : decode cX11_likely 29 = .ok (.lreturn, 1) := by decide +kernel
theorem dX11_likely_30 : decode cX11_likely 30 = .ok (.aload_n 0, 1) := by decide +kernel
theorem dX11_likely_31 : decode cX11_likely 31 = .ok (.getfield 35, 3) := by decide +kernel
theorem dX11_likely_34 : decode cX11_likely 34 = .ok (.aload_n 0, 1) := by decide +kernel
theorem dX11_likely_35 : decode cX11_likely 35 = .ok (.getfield 81, 3) := by decide +kernel
theorem dX11_likely_38 : decode cX11_likely 38 = .ok (.iload_n 1, 1) := by decide +kernel
theorem dX11_likely_39 : decode cX11_likely 39 = .ok (.aaload, 1) := by decide +kernel
theorem dX11_likely_40 : decode cX11_likely 40 = .ok (.iconst (-1), 1) := by decide +kernel
theorem dX11_likely_41 : decode cX11_likely 41 = .ok (.invokevirtual 166, 3) := by decide +kernel
theorem dX11_likely_44 : decode cX11_likely 44 = .ok (.aload_n 0, 1) := by decide +kernel
theorem dX11_likely_45 : decode cX11_likely 45 = .ok (.getfield 35, 3) := by decide +kernel
theorem dX11_likely_48 : decode cX11_likely 48 = .ok (.getfield 170, 3) := by decide +kernel
theorem dX11_likely_51 : decode cX11_likely 51 = .ok (.lconst 0, 1) := by decide +kernel
theorem dX11_likely_52 : decode cX11_likely 52 = .ok (.lcmp, 1) := by decide +kernel
theorem dX11_likely_53 : decode cX11_likely 53 = .ok (.ifCond .ne 9, 3) := by decide +kernel
theorem dX11_likely_56 : decode cX11_likely 56 = .ok (.ldc2_w 174, 3) := by decide +kernel
theorem dX11_likely_59 : decode cX11_likely 59 = .ok (.goto 23, 3) := by decide +kernel
theorem dX11_likely_62 : decode cX11_likely 62 = .ok (.aload_n 0, 1) := by decide +kernel
theorem dX11_likely_63 : decode cX11_likely 63 = .ok (.getfield 35, 3) := by decide +kernel
theorem dX11_likely_66 : decode cX11_likely 66 = .ok (.getfield 176, 3) := by decide +kernel
theorem dX11_likely_69 : decode cX11_likely 69 = .ok (.iload_n 2, 1) := by decide +kernel
theorem dX11_likely_70 : decode cX11_likely 70 = .ok (.laload, 1) := by decide +kernel
theorem dX11_likely_71 : decode cX11_likely 71 = .ok (.aload_n 0, 1) := by decide +kernel
theorem dX11_likely_72 : decode cX11_likely 72 = .ok (.getfield 35, 3) := by decide +kernel
theorem dX11_likely_75 : decode cX11_likely 75 = .ok (.getfield 170, 3) := by decide +kernel
theorem dX11_likely_78 : decode cX11_likely 78 = .ok (.iload_n 3, 1) := by decide +kernel
theorem dX11_likely_79 : decode cX11_likely 79 = .ok (.invokestatic 158, 3) := by decide +kernel
theorem dX11_likely_82 : decode cX11_likely 82 = .ok (.lreturn, 1) := by decide +kernel
def f_X11_likely (σ : St) (p1 : Int32) (p2 : Int32) (p3 : Int32) : Option (Int64 × St) := bnd2 (f_X6_has σ p2) (fun r2 σ3 => if r2 = 0 then (some ((-9223372036854775808 : Int64), σ3)) else (bnd1 (f_X11_fractionPart p3) (fun r6 => if r6 = 0 then (some ((-9223372036854775808 : Int64), σ3)) else (bnd2 (f_X11_refusedBytes σ3 p1) (fun r9 σ10 => if r9 = 0 then (chk (p1 < 0 ∨ 6 ≤ p1.toNatClampNeg) (bnd1 (f_X3_weigh σ10 ((p1.toNatClampNeg)) (-1 : Int32)) (fun σ14 => if σ14.2.1 153 0 = (0 : Int64) then (some ((-2 : Int64), σ14)) else (chk (p2 < 0 ∨ 10 ≤ p2.toNatClampNeg) (bnd1 (f_X11_lowest (σ14.2.2.2.1 152 0 p2.toNatClampNeg) (σ14.2.1 153 0) p3) (fun r18 => some (r18, σ14))))))) else (some ((-9223372036854775808 : Int64), σ10)))))))
set_option maxHeartbeats 4000000 in
set_option maxRecDepth 100000 in
theorem c_X11_likely {l : Launch} {g : va_G} {ts : ClassId × ClassId × ClassId} {a : Nat → Nat} {σ : St} {p1 : Int32} {p2 : Int32} {p3 : Int32} {r : Int64} {σ' : St} (hf : f_X11_likely σ p1 p2 p3 = some (r, σ')) : ConL l g ts (WC ts a) yX11_likely cX11_likely 4 (some .long) (rk 5 133) σ [.ref (a 0), .int p1, .int p2, .int p3] r σ' := by
  refine ConL_mk rfl rfl (by decide) (Nat.le_of_ble_eq_true rfl) ?_
  intro p e s m below meth c A Q ls C hQ hP hD hS hl
  have C : FX p s m _ meth c RX11 cX11_likely 4 g ts A := C
  have hx := C.1
  have hb := C.2.1
  have hown := C.2.2.2.1
  have hts := C.2.2.2.2.1
  have hl : lv_has ls 4 [(0, .ref (a 0)), (1, .int p1), (2, .int p2), (3, .int p3)] := hl
  rw [f_X11_likely] at hf
  refine lv_aload_n hx hb dX11_likely_0 rfl (lv_at hl 0 rfl) ?_
  refine G_X11_names C hP q_381 dX11_likely_1 ?_
  refine lv_iload_n hx hb dX11_likely_4 rfl (lv_at hl 2 rfl) ?_
  obtain ⟨r2, σ3, h1, hf⟩ := bnd2_some hf
  refine vI [] C hP hD hS (c_X6_has h1) mv_X6_has q_465 rv_X6 dX11_likely_5 ⟨Nat.le_of_ble_eq_true rfl, Nat.le_of_ble_eq_true rfl⟩ ⟨Nat.zero_le _, Nat.zero_le _⟩ rfl rfl (Nat.le_of_ble_eq_true rfl) hl.1 (fun H locs hP hD hS => ?_)
  refine lv_if_eq (tgt := 26) hx hb dX11_likely_8 (by decide) (fun c4 => ?_) (fun c4 => ?_)
  · replace hf := ipos c4 hf
    refine lv_ldc2 hx hb hown (hts _ q_661) dX11_likely_26 ?_
    exact retL hQ hf dX11_likely_29 hP hD hS
  · replace hf := ineg c4 hf
    refine lv_iload_n hx hb dX11_likely_11 rfl (lv_at hl 3 rfl) ?_
    obtain ⟨r6, h5, hf⟩ := bnd1_some hf
    refine tI [] C hP hD hS (c_X11_fractionPart h5) ms_X11_fractionPart q_658 dX11_likely_12 ⟨Nat.le_of_ble_eq_true rfl, Nat.le_of_ble_eq_true rfl⟩ ⟨Nat.zero_le _, Nat.zero_le _⟩ rfl rfl (Nat.le_of_ble_eq_true rfl) hl.1 (fun H locs hP hD hS => ?_)
    refine lv_if_eq (tgt := 26) hx hb dX11_likely_15 (by decide) (fun c7 => ?_) (fun c7 => ?_)
    · replace hf := ipos c7 hf
      refine lv_ldc2 hx hb hown (hts _ q_661) dX11_likely_26 ?_
      exact retL hQ hf dX11_likely_29 hP hD hS
    · replace hf := ineg c7 hf
      refine lv_aload_n hx hb dX11_likely_18 rfl (lv_at hl 0 rfl) ?_
      refine lv_iload_n hx hb dX11_likely_19 rfl (lv_at hl 1 rfl) ?_
      obtain ⟨r9, σ10, h8, hf⟩ := bnd2_some hf
      refine vI [] C hP hD hS (c_X11_refusedBytes h8) mv_X11_refusedBytes q_421 rv_X11 dX11_likely_20 ⟨Nat.le_of_ble_eq_true rfl, Nat.le_of_ble_eq_true rfl⟩ ⟨Nat.zero_le _, Nat.zero_le _⟩ rfl rfl (Nat.le_of_ble_eq_true rfl) hl.1 (fun H locs hP hD hS => ?_)
      refine lv_if_eq (tgt := 30) hx hb dX11_likely_23 (by decide) (fun c11 => ?_) (fun c11 => ?_)
      · replace hf := ipos c11 hf
        refine lv_aload_n hx hb dX11_likely_30 rfl (lv_at hl 0 rfl) ?_
        refine G_X11_guess C hP q_383 dX11_likely_31 ?_
        refine lv_aload_n hx hb dX11_likely_34 rfl (lv_at hl 0 rfl) ?_
        refine G_X11_shelves C hP q_390 dX11_likely_35 ?_
        refine lv_iload_n hx hb dX11_likely_38 rfl (lv_at hl 1 rfl) ?_
        obtain ⟨h12, hf⟩ := chk_some hf
        refine AL_shelves C hP h12 dX11_likely_39 ?_
        refine lv_iconst (v := -1) hx hb dX11_likely_40 (by decide) ?_
        obtain ⟨σ14, h13, hf⟩ := bnd1_some hf
        refine vV [] C hP hD hS (c_X3_weigh (Nat.not_le.mp fun q => h12 (Or.inr q)) h13) mv_X3_weigh q_690 rv_X3 dX11_likely_41 ⟨Nat.le_of_ble_eq_true rfl, Nat.le_of_ble_eq_true rfl⟩ ⟨Nat.zero_le _, Nat.zero_le _⟩ rfl rfl (Nat.le_of_ble_eq_true rfl) hl.1 (fun H locs hP hD hS => ?_)
        refine lv_aload_n hx hb dX11_likely_44 rfl (lv_at hl 0 rfl) ?_
        refine G_X11_guess C hP q_383 dX11_likely_45 ?_
        refine G_X3_all C hP q_207 dX11_likely_48 ?_
        refine lv_lconst (v := 0) hx hb dX11_likely_51 (by decide) ?_
        refine lb_ne (tgt := 62) hx hb dX11_likely_52 dX11_likely_53 (by decide) (fun c15 => ?_) (fun c15 => ?_)
        · replace hf := ineg c15 hf
          refine lv_aload_n hx hb dX11_likely_62 rfl (lv_at hl 0 rfl) ?_
          refine G_X11_guess C hP q_383 dX11_likely_63 ?_
          refine G_X3_products C hP q_205 dX11_likely_66 ?_
          refine lv_iload_n hx hb dX11_likely_69 rfl (lv_at hl 2 rfl) ?_
          obtain ⟨h16, hf⟩ := chk_some hf
          refine AL_X3_products C hP h16 dX11_likely_70 ?_
          refine lv_aload_n hx hb dX11_likely_71 rfl (lv_at hl 0 rfl) ?_
          refine G_X11_guess C hP q_383 dX11_likely_72 ?_
          refine G_X3_all C hP q_207 dX11_likely_75 ?_
          refine lv_iload_n hx hb dX11_likely_78 rfl (lv_at hl 3 rfl) ?_
          obtain ⟨r18, h17, hf⟩ := bnd1_some hf
          refine tL [] C hP hD hS (c_X11_lowest h17) ms_X11_lowest q_679 dX11_likely_79 ⟨Nat.le_of_ble_eq_true rfl, Nat.le_of_ble_eq_true rfl⟩ ⟨Nat.zero_le _, Nat.zero_le _⟩ rfl rfl (Nat.le_of_ble_eq_true rfl) hl.1 (fun H locs hP hD hS => ?_)
          exact retL hQ hf dX11_likely_82 hP hD hS
        · replace hf := ipos c15 hf
          refine lv_ldc2 hx hb hown (hts _ q_706) dX11_likely_56 ?_
          refine lv_goto (tgt := 82) hx hb dX11_likely_59 (by decide) ?_
          exact retL hQ hf dX11_likely_82 hP hD hS
      · replace hf := ineg c11 hf
        refine lv_ldc2 hx hb hown (hts _ q_661) dX11_likely_26 ?_
        exact retL hQ hf dX11_likely_29 hP hD hS
theorem dX11_likeliest_0 : decode cX11_likeliest 0 = .ok (.aload_n 0, 1) := by decide +kernel
theorem dX11_likeliest_1 : decode cX11_likeliest 1 = .ok (.iload_n 1, 1) := by decide +kernel
theorem dX11_likeliest_2 : decode cX11_likeliest 2 = .ok (.invokevirtual 86, 3) := by decide +kernel
theorem dX11_likeliest_5 : decode cX11_likeliest 5 = .ok (.istore_n 2, 1) := by decide +kernel
theorem dX11_likeliest_6 : decode cX11_likeliest 6 = .ok (.iload_n 2, 1) := by decide +kernel
theorem dX11_likeliest_7 : decode cX11_likeliest 7 = .ok (.ifCond .eq 5, 3) := by decide +kernel
theorem dX11_likeliest_10 : decode cX11_likeliest 10 = .ok (.iload_n 2, 1) := by decide +kernel
theorem dX11_likeliest_11 : decode cX11_likeliest 11 = .ok (.ireturn, 1) := by decide +kernel
theorem dX11_likeliest_12 : decode cX11_likeliest 12 = .ok (.aload_n 0, 1) := by decide +kernel
theorem dX11_likeliest_13 : decode cX11_likeliest 13 = .ok (.getfield 35, 3) := by decide +kernel
theorem dX11_likeliest_16 : decode cX11_likeliest 16 = .ok (.aload_n 0, 1) := by decide +kernel
theorem dX11_likeliest_17 : decode cX11_likeliest 17 = .ok (.getfield 81, 3) := by decide +kernel
theorem dX11_likeliest_20 : decode cX11_likeliest 20 = .ok (.iload_n 1, 1) := by decide +kernel
theorem dX11_likeliest_21 : decode cX11_likeliest 21 = .ok (.aaload, 1) := by decide +kernel
theorem dX11_likeliest_22 : decode cX11_likeliest 22 = .ok (.iconst (-1), 1) := by decide +kernel
theorem dX11_likeliest_23 : decode cX11_likeliest 23 = .ok (.invokevirtual 166, 3) := by decide +kernel
theorem dX11_likeliest_26 : decode cX11_likeliest 26 = .ok (.aload_n 0, 1) := by decide +kernel
theorem dX11_likeliest_27 : decode cX11_likeliest 27 = .ok (.getfield 35, 3) := by decide +kernel
theorem dX11_likeliest_30 : decode cX11_likeliest 30 = .ok (.invokevirtual 180, 3) := by decide +kernel
theorem dX11_likeliest_33 : decode cX11_likeliest 33 = .ok (.ireturn, 1) := by decide +kernel
def f_X11_likeliest (σ : St) (p1 : Int32) : Option (Int32 × St) := bnd2 (f_X11_refusedBytes σ p1) (fun r2 σ3 => if r2 = 0 then (chk (p1 < 0 ∨ 6 ≤ p1.toNatClampNeg) (bnd1 (f_X3_weigh σ3 ((p1.toNatClampNeg)) (-1 : Int32)) (fun σ7 => bnd2 (f_X3_best σ7) (fun r9 σ10 => some (r9, σ10))))) else (some (r2, σ3)))
set_option maxHeartbeats 4000000 in
set_option maxRecDepth 100000 in
theorem c_X11_likeliest {l : Launch} {g : va_G} {ts : ClassId × ClassId × ClassId} {a : Nat → Nat} {σ : St} {p1 : Int32} {r : Int32} {σ' : St} (hf : f_X11_likeliest σ p1 = some (r, σ')) : ConI l g ts (WC ts a) yX11_likeliest cX11_likeliest 3 (some .int) (rk 5 133) σ [.ref (a 0), .int p1] r σ' := by
  refine ConI_mk .int rfl rfl rfl rfl (by decide) (Nat.le_of_ble_eq_true rfl) ?_
  intro p e s m below meth c A Q ls C hQ hP hD hS hl
  have C : FX p s m _ meth c RX11 cX11_likeliest 3 g ts A := C
  have hx := C.1
  have hb := C.2.1
  have hown := C.2.2.2.1
  have hts := C.2.2.2.2.1
  have hl : lv_has ls 3 [(0, .ref (a 0)), (1, .int p1)] := hl
  rw [f_X11_likeliest] at hf
  refine lv_aload_n hx hb dX11_likeliest_0 rfl (lv_at hl 0 rfl) ?_
  refine lv_iload_n hx hb dX11_likeliest_1 rfl (lv_at hl 1 rfl) ?_
  obtain ⟨r2, σ3, h1, hf⟩ := bnd2_some hf
  refine vI [] C hP hD hS (c_X11_refusedBytes h1) mv_X11_refusedBytes q_421 rv_X11 dX11_likeliest_2 ⟨Nat.le_of_ble_eq_true rfl, Nat.le_of_ble_eq_true rfl⟩ ⟨Nat.zero_le _, Nat.zero_le _⟩ rfl rfl (Nat.le_of_ble_eq_true rfl) hl.1 (fun H locs hP hD hS => ?_)
  refine lv_istore_n (lv' := [(2, .int r2), (0, .ref (a 0)), (1, .int p1)]) hx hb dX11_likeliest_5 rfl hl (by decide) rfl (fun ls hl => ?_)
  refine lv_iload_n hx hb dX11_likeliest_6 rfl (lv_at hl 0 rfl) ?_
  refine lv_if_eq (tgt := 12) hx hb dX11_likeliest_7 (by decide) (fun c4 => ?_) (fun c4 => ?_)
  · replace hf := ipos c4 hf
    refine lv_aload_n hx hb dX11_likeliest_12 rfl (lv_at hl 1 rfl) ?_
    refine G_X11_guess C hP q_383 dX11_likeliest_13 ?_
    refine lv_aload_n hx hb dX11_likeliest_16 rfl (lv_at hl 1 rfl) ?_
    refine G_X11_shelves C hP q_390 dX11_likeliest_17 ?_
    refine lv_iload_n hx hb dX11_likeliest_20 rfl (lv_at hl 2 rfl) ?_
    obtain ⟨h5, hf⟩ := chk_some hf
    refine AL_shelves C hP h5 dX11_likeliest_21 ?_
    refine lv_iconst (v := -1) hx hb dX11_likeliest_22 (by decide) ?_
    obtain ⟨σ7, h6, hf⟩ := bnd1_some hf
    refine vV [] C hP hD hS (c_X3_weigh (Nat.not_le.mp fun q => h5 (Or.inr q)) h6) mv_X3_weigh q_690 rv_X3 dX11_likeliest_23 ⟨Nat.le_of_ble_eq_true rfl, Nat.le_of_ble_eq_true rfl⟩ ⟨Nat.zero_le _, Nat.zero_le _⟩ rfl rfl (Nat.le_of_ble_eq_true rfl) hl.1 (fun H locs hP hD hS => ?_)
    refine lv_aload_n hx hb dX11_likeliest_26 rfl (lv_at hl 1 rfl) ?_
    refine G_X11_guess C hP q_383 dX11_likeliest_27 ?_
    obtain ⟨r9, σ10, h8, hf⟩ := bnd2_some hf
    refine vI [] C hP hD hS (c_X3_best h8) mv_X3_best q_711 rv_X3 dX11_likeliest_30 ⟨Nat.le_of_ble_eq_true rfl, Nat.le_of_ble_eq_true rfl⟩ ⟨Nat.zero_le _, Nat.zero_le _⟩ rfl rfl (Nat.le_of_ble_eq_true rfl) hl.1 (fun H locs hP hD hS => ?_)
    exact retI hQ hf dX11_likeliest_33 hP hD hS
  · replace hf := ineg c4 hf
    refine lv_iload_n hx hb dX11_likeliest_10 rfl (lv_at hl 0 rfl) ?_
    exact retI hQ hf dX11_likeliest_11 hP hD hS
theorem dX11_sure_0 : decode cX11_sure 0 = .ok (.iload_n 2, 1) := by decide +kernel
theorem dX11_sure_1 : decode cX11_sure 1 = .ok (.invokestatic 184, 3) := by decide +kernel
theorem dX11_sure_4 : decode cX11_sure 4 = .ok (.ifCond .eq 11, 3) := by decide +kernel
theorem dX11_sure_7 : decode cX11_sure 7 = .ok (.aload_n 0, 1) := by decide +kernel
theorem dX11_sure_8 : decode cX11_sure 8 = .ok (.iload_n 1, 1) := by decide +kernel
theorem dX11_sure_9 : decode cX11_sure 9 = .ok (.invokevirtual 86, 3) := by decide +kernel
theorem dX11_sure_12 : decode cX11_sure 12 = .ok (.goto 4, 3) := by decide +kernel
theorem dX11_sure_15 : decode cX11_sure 15 = .ok (.iconst (-1), 1) := by decide +kernel
theorem dX11_sure_16 : decode cX11_sure 16 = .ok (.istore_n 3, 1) := by decide +kernel
theorem dX11_sure_17 : decode cX11_sure 17 = .ok (.iload_n 3, 1) := by decide +kernel
theorem dX11_sure_18 : decode cX11_sure 18 = .ok (.ifCond .eq 5, 3) := by decide +kernel
theorem dX11_sure_21 : decode cX11_sure 21 = .ok (.iload_n 3, 1) := by decide +kernel
theorem dX11_sure_22 : decode cX11_sure 22 = .ok (.ireturn, 1) := by decide +kernel
theorem dX11_sure_23 : decode cX11_sure 23 = .ok (.aload_n 0, 1) := by decide +kernel
theorem dX11_sure_24 : decode cX11_sure 24 = .ok (.getfield 35, 3) := by decide +kernel
theorem dX11_sure_27 : decode cX11_sure 27 = .ok (.aload_n 0, 1) := by decide +kernel
theorem dX11_sure_28 : decode cX11_sure 28 = .ok (.getfield 81, 3) := by decide +kernel
theorem dX11_sure_31 : decode cX11_sure 31 = .ok (.iload_n 1, 1) := by decide +kernel
theorem dX11_sure_32 : decode cX11_sure 32 = .ok (.aaload, 1) := by decide +kernel
theorem dX11_sure_33 : decode cX11_sure 33 = .ok (.iconst (-1), 1) := by decide +kernel
theorem dX11_sure_34 : decode cX11_sure 34 = .ok (.invokevirtual 166, 3) := by decide +kernel
theorem dX11_sure_37 : decode cX11_sure 37 = .ok (.aload_n 0, 1) := by decide +kernel
theorem dX11_sure_38 : decode cX11_sure 38 = .ok (.getfield 35, 3) := by decide +kernel
theorem dX11_sure_41 : decode cX11_sure 41 = .ok (.invokevirtual 180, 3) := by decide +kernel
theorem dX11_sure_44 : decode cX11_sure 44 = .ok (.istore 4, 2) := by decide +kernel
theorem dX11_sure_46 : decode cX11_sure 46 = .ok (.iload 4, 2) := by decide +kernel
theorem dX11_sure_48 : decode cX11_sure 48 = .ok (.ifCond .ge 6, 3) := by decide +kernel
theorem dX11_sure_51 : decode cX11_sure 51 = .ok (.bipush (-2), 2) := by decide +kernel
theorem dX11_sure_53 : decode cX11_sure 53 = .ok (.ireturn, 1) := by decide +kernel
theorem dX11_sure_54 : decode cX11_sure 54 = .ok (.ldc2_w 187, 3) := by decide +kernel
theorem dX11_sure_57 : decode cX11_sure 57 = .ok (.aload_n 0, 1) := by decide +kernel
theorem dX11_sure_58 : decode cX11_sure 58 = .ok (.getfield 35, 3) := by decide +kernel
theorem dX11_sure_61 : decode cX11_sure 61 = .ok (.getfield 176, 3) := by decide +kernel
theorem dX11_sure_64 : decode cX11_sure 64 = .ok (.iload 4, 2) := by decide +kernel
theorem dX11_sure_66 : decode cX11_sure 66 = .ok (.laload, 1) := by decide +kernel
theorem dX11_sure_67 : decode cX11_sure 67 = .ok (.lmul, 1) := by decide +kernel
theorem dX11_sure_68 : decode cX11_sure 68 = .ok (.iload_n 2, 1) := by decide +kernel
theorem dX11_sure_69 : decode cX11_sure 69 = .ok (.i2l, 1) := by decide +kernel
theorem dX11_sure_70 : decode cX11_sure 70 = .ok (.aload_n 0, 1) := by decide +kernel
theorem dX11_sure_71 : decode cX11_sure 71 = .ok (.getfield 35, 3) := by decide +kernel
theorem dX11_sure_74 : decode cX11_sure 74 = .ok (.getfield 170, 3) := by decide +kernel
theorem dX11_sure_77 : decode cX11_sure 77 = .ok (.lmul, 1) := by decide +kernel
theorem dX11_sure_78 : decode cX11_sure 78 = .ok (.lcmp, 1) := by decide +kernel
theorem dX11_sure_79 : decode cX11_sure 79 = .ok (.ifCond .le 7, 3) := by decide +kernel
theorem dX11_sure_82 : decode cX11_sure 82 = .ok (.iconst 1, 1) := by decide +kernel
theorem dX11_sure_83 : decode cX11_sure 83 = .ok (.goto 4, 3) := by decide +kernel
theorem dX11_sure_86 : decode cX11_sure 86 = .ok (.iconst 0, 1) := by decide +kernel
theorem dX11_sure_87 : decode cX11_sure 87 = .ok (.ireturn, 1) := by decide +kernel
def f_X11_sure_b16 (σ : St) (x1 : Int32) (x2 : Int32) (s0 : Int32) : Option (Int32 × St) := if s0 = 0 then (chk (x1 < 0 ∨ 6 ≤ x1.toNatClampNeg) (bnd1 (f_X3_weigh σ ((x1.toNatClampNeg)) (-1 : Int32)) (fun σ10 => bnd2 (f_X3_best σ10) (fun r12 σ13 => if 0 ≤ r12 then (chk (r12 < 0 ∨ 10 ≤ r12.toNatClampNeg) (if (12 : Int64) * (σ13.2.2.2.1 152 0 r12.toNatClampNeg) ≤ ((x2 : Int32).toInt64) * (σ13.2.1 153 0) then (some ((0 : Int32), σ13)) else (some ((1 : Int32), σ13)))) else (some ((-2 : Int32), σ13)))))) else (some (s0, σ))
def f_X11_sure (σ : St) (p1 : Int32) (p2 : Int32) : Option (Int32 × St) := bnd1 (f_X11_ofTwelve p2) (fun r2 => if r2 = 0 then (f_X11_sure_b16 σ p1 p2 (-1 : Int32)) else (bnd2 (f_X11_refusedBytes σ p1) (fun r5 σ6 => f_X11_sure_b16 σ6 p1 p2 r5)))
set_option maxHeartbeats 4000000 in
set_option maxRecDepth 100000 in
theorem w_X11_sure_b16 {p : Program} {l : Launch} {e : Env} {s : State} {m : MethodId} {args : Array Value} {below : List Frame} {meth : Method} {c : Code} {g : va_G} {ts : ClassId × ClassId × ClassId} {A : Nat → Prop} {Q : State → Prop} {a : Nat → Nat} {r : Int32} {σ' : St} (C : FX p s m args meth c RX11 cX11_sure 5 g ts A) (hQ : RetI p l e (rk 5 133) s m args below meth c cX11_sure g (WC ts a) A r σ' Q) : ∀ (σ : St) (x1 : Int32) (x2 : Int32) (s0 : Int32) (H : Heap) (locs : List Loc) (ls : Array Slot), f_X11_sure_b16 σ x1 x2 s0 = some (r, σ') → va_P g classes (WC ts a σ) H → va_D A (WC ts a σ) → va_S A s.heap H locs → lv_has ls 5 [(0, .ref (a 0)), (1, .int x1), (2, .int x2)] → W p l e (rk 5 133) s m args below meth c H locs 0 0 Q (F0 m 16 ls [.int s0]) := by
  have hx := C.1
  have hb := C.2.1
  have hown := C.2.2.2.1
  have hts := C.2.2.2.2.1
  intro σ x1 x2 s0 H locs ls hf hP hD hS hl
  rw [f_X11_sure_b16] at hf
  refine lv_istore_n (lv' := [(3, .int s0), (0, .ref (a 0)), (1, .int x1), (2, .int x2)]) hx hb dX11_sure_16 rfl hl (by decide) rfl (fun ls hl => ?_)
  refine lv_iload_n hx hb dX11_sure_17 rfl (lv_at hl 0 rfl) ?_
  refine lv_if_eq (tgt := 23) hx hb dX11_sure_18 (by decide) (fun c7 => ?_) (fun c7 => ?_)
  · replace hf := ipos c7 hf
    refine lv_aload_n hx hb dX11_sure_23 rfl (lv_at hl 1 rfl) ?_
    refine G_X11_guess C hP q_383 dX11_sure_24 ?_
    refine lv_aload_n hx hb dX11_sure_27 rfl (lv_at hl 1 rfl) ?_
    refine G_X11_shelves C hP q_390 dX11_sure_28 ?_
    refine lv_iload_n hx hb dX11_sure_31 rfl (lv_at hl 2 rfl) ?_
    obtain ⟨h8, hf⟩ := chk_some hf
    refine AL_shelves C hP h8 dX11_sure_32 ?_
    refine lv_iconst (v := -1) hx hb dX11_sure_33 (by decide) ?_
    obtain ⟨σ10, h9, hf⟩ := bnd1_some hf
    refine vV [] C hP hD hS (c_X3_weigh (Nat.not_le.mp fun q => h8 (Or.inr q)) h9) mv_X3_weigh q_690 rv_X3 dX11_sure_34 ⟨Nat.le_of_ble_eq_true rfl, Nat.le_of_ble_eq_true rfl⟩ ⟨Nat.zero_le _, Nat.zero_le _⟩ rfl rfl (Nat.le_of_ble_eq_true rfl) hl.1 (fun H locs hP hD hS => ?_)
    refine lv_aload_n hx hb dX11_sure_37 rfl (lv_at hl 1 rfl) ?_
    refine G_X11_guess C hP q_383 dX11_sure_38 ?_
    obtain ⟨r12, σ13, h11, hf⟩ := bnd2_some hf
    refine vI [] C hP hD hS (c_X3_best h11) mv_X3_best q_711 rv_X3 dX11_sure_41 ⟨Nat.le_of_ble_eq_true rfl, Nat.le_of_ble_eq_true rfl⟩ ⟨Nat.zero_le _, Nat.zero_le _⟩ rfl rfl (Nat.le_of_ble_eq_true rfl) hl.1 (fun H locs hP hD hS => ?_)
    refine lv_istore (lv' := [(4, .int r12), (3, .int s0), (0, .ref (a 0)), (1, .int x1), (2, .int x2)]) hx hb dX11_sure_44 hl (by decide) rfl (fun ls hl => ?_)
    refine lv_iload hx hb dX11_sure_46 (lv_at hl 0 rfl) ?_
    refine lv_if_ge (tgt := 54) hx hb dX11_sure_48 (by decide) (fun c14 => ?_) (fun c14 => ?_)
    · replace hf := ipos c14 hf
      refine lv_ldc2 hx hb hown (hts _ q_451) dX11_sure_54 ?_
      refine lv_aload_n hx hb dX11_sure_57 rfl (lv_at hl 2 rfl) ?_
      refine G_X11_guess C hP q_383 dX11_sure_58 ?_
      refine G_X3_products C hP q_205 dX11_sure_61 ?_
      refine lv_iload hx hb dX11_sure_64 (lv_at hl 0 rfl) ?_
      obtain ⟨h15, hf⟩ := chk_some hf
      refine AL_X3_products C hP h15 dX11_sure_66 ?_
      refine lv_lmul hx hb dX11_sure_67 ?_
      refine lv_iload_n hx hb dX11_sure_68 rfl (lv_at hl 4 rfl) ?_
      refine lv_i2l (v := (x2 : Int32).toInt64) hx hb dX11_sure_69 rfl ?_
      refine lv_aload_n hx hb dX11_sure_70 rfl (lv_at hl 2 rfl) ?_
      refine G_X11_guess C hP q_383 dX11_sure_71 ?_
      refine G_X3_all C hP q_207 dX11_sure_74 ?_
      refine lv_lmul hx hb dX11_sure_77 ?_
      refine lb_le (tgt := 86) hx hb dX11_sure_78 dX11_sure_79 (by decide) (fun c16 => ?_) (fun c16 => ?_)
      · replace hf := ipos c16 hf
        refine lv_iconst (v := 0) hx hb dX11_sure_86 (by decide) ?_
        exact retI hQ hf dX11_sure_87 hP hD hS
      · replace hf := ineg c16 hf
        refine lv_iconst (v := 1) hx hb dX11_sure_82 (by decide) ?_
        refine lv_goto (tgt := 87) hx hb dX11_sure_83 (by decide) ?_
        exact retI hQ hf dX11_sure_87 hP hD hS
    · replace hf := ineg c14 hf
      refine lv_bipush (v := -2) hx hb dX11_sure_51 (by decide) ?_
      exact retI hQ hf dX11_sure_53 hP hD hS
  · replace hf := ineg c7 hf
    refine lv_iload_n hx hb dX11_sure_21 rfl (lv_at hl 0 rfl) ?_
    exact retI hQ hf dX11_sure_22 hP hD hS
set_option maxHeartbeats 4000000 in
set_option maxRecDepth 100000 in
theorem c_X11_sure {l : Launch} {g : va_G} {ts : ClassId × ClassId × ClassId} {a : Nat → Nat} {σ : St} {p1 : Int32} {p2 : Int32} {r : Int32} {σ' : St} (hf : f_X11_sure σ p1 p2 = some (r, σ')) : ConI l g ts (WC ts a) yX11_sure cX11_sure 5 (some .int) (rk 5 133) σ [.ref (a 0), .int p1, .int p2] r σ' := by
  refine ConI_mk .int rfl rfl rfl rfl (by decide) (Nat.le_of_ble_eq_true rfl) ?_
  intro p e s m below meth c A Q ls C hQ hP hD hS hl
  have C : FX p s m _ meth c RX11 cX11_sure 5 g ts A := C
  have hx := C.1
  have hb := C.2.1
  have hown := C.2.2.2.1
  have hts := C.2.2.2.2.1
  have hl : lv_has ls 5 [(0, .ref (a 0)), (1, .int p1), (2, .int p2)] := hl
  rw [f_X11_sure] at hf
  refine lv_iload_n hx hb dX11_sure_0 rfl (lv_at hl 2 rfl) ?_
  obtain ⟨r2, h1, hf⟩ := bnd1_some hf
  refine tI [] C hP hD hS (c_X11_ofTwelve h1) ms_X11_ofTwelve q_719 dX11_sure_1 ⟨Nat.le_of_ble_eq_true rfl, Nat.le_of_ble_eq_true rfl⟩ ⟨Nat.zero_le _, Nat.zero_le _⟩ rfl rfl (Nat.le_of_ble_eq_true rfl) hl.1 (fun H locs hP hD hS => ?_)
  refine lv_if_eq (tgt := 15) hx hb dX11_sure_4 (by decide) (fun c3 => ?_) (fun c3 => ?_)
  · replace hf := ipos c3 hf
    refine lv_iconst (v := -1) hx hb dX11_sure_15 (by decide) ?_
    exact w_X11_sure_b16 C hQ _ _ _ _ _ _ _ hf hP hD hS (lv_sub hl [0, 1, 2] rfl)
  · replace hf := ineg c3 hf
    refine lv_aload_n hx hb dX11_sure_7 rfl (lv_at hl 0 rfl) ?_
    refine lv_iload_n hx hb dX11_sure_8 rfl (lv_at hl 1 rfl) ?_
    obtain ⟨r5, σ6, h4, hf⟩ := bnd2_some hf
    refine vI [] C hP hD hS (c_X11_refusedBytes h4) mv_X11_refusedBytes q_421 rv_X11 dX11_sure_9 ⟨Nat.le_of_ble_eq_true rfl, Nat.le_of_ble_eq_true rfl⟩ ⟨Nat.zero_le _, Nat.zero_le _⟩ rfl rfl (Nat.le_of_ble_eq_true rfl) hl.1 (fun H locs hP hD hS => ?_)
    refine lv_goto (tgt := 16) hx hb dX11_sure_12 (by decide) ?_
    exact w_X11_sure_b16 C hQ _ _ _ _ _ _ _ hf hP hD hS (lv_sub hl [0, 1, 2] rfl)
theorem dX11_check_0 : decode cX11_check 0 = .ok (.iload_n 2, 1) := by decide +kernel
theorem dX11_check_1 : decode cX11_check 1 = .ok (.ifCond .lt 42, 3) := by decide +kernel
theorem dX11_check_4 : decode cX11_check 4 = .ok (.aload_n 0, 1) := by decide +kernel
theorem dX11_check_5 : decode cX11_check 5 = .ok (.getfield 19, 3) := by decide +kernel
theorem dX11_check_8 : decode cX11_check 8 = .ok (.iload_n 2, 1) := by decide +kernel
theorem dX11_check_9 : decode cX11_check 9 = .ok (.bipush 100, 2) := by decide +kernel
theorem dX11_check_11 : decode cX11_check 11 = .ok (.idiv, 1) := by decide +kernel
theorem dX11_check_12 : decode cX11_check 12 = .ok (.invokevirtual 119, 3) := by decide +kernel
theorem dX11_check_15 : decode cX11_check 15 = .ok (.ifCond .eq 28, 3) := by decide +kernel
theorem dX11_check_18 : decode cX11_check 18 = .ok (.iload_n 2, 1) := by decide +kernel
theorem dX11_check_19 : decode cX11_check 19 = .ok (.bipush 100, 2) := by decide +kernel
theorem dX11_check_21 : decode cX11_check 21 = .ok (.irem, 1) := by decide +kernel
theorem dX11_check_22 : decode cX11_check 22 = .ok (.invokestatic 184, 3) := by decide +kernel
theorem dX11_check_25 : decode cX11_check 25 = .ok (.ifCond .eq 18, 3) := by decide +kernel
theorem dX11_check_28 : decode cX11_check 28 = .ok (.iload_n 3, 1) := by decide +kernel
theorem dX11_check_29 : decode cX11_check 29 = .ok (.invokestatic 150, 3) := by decide +kernel
theorem dX11_check_32 : decode cX11_check 32 = .ok (.ifCond .eq 11, 3) := by decide +kernel
theorem dX11_check_35 : decode cX11_check 35 = .ok (.aload_n 0, 1) := by decide +kernel
theorem dX11_check_36 : decode cX11_check 36 = .ok (.iload_n 1, 1) := by decide +kernel
theorem dX11_check_37 : decode cX11_check 37 = .ok (.invokevirtual 86, 3) := by decide +kernel
theorem dX11_check_40 : decode cX11_check 40 = .ok (.ifCond .eq 7, 3) := by decide +kernel
theorem dX11_check_43 : decode cX11_check 43 = .ok (.ldc2_w 153, 3) := by decide +kernel
theorem dX11_check_46 : decode cX11_check 46 = .ok (.lreturn, 1) := by decide +kernel
theorem dX11_check_47 : decode cX11_check 47 = .ok (.aload_n 0, 1) := by decide +kernel
theorem dX11_check_48 : decode cX11_check 48 = .ok (.getfield 35, 3) := by decide +kernel
theorem dX11_check_51 : decode cX11_check 51 = .ok (.aload_n 0, 1) := by decide +kernel
theorem dX11_check_52 : decode cX11_check 52 = .ok (.getfield 81, 3) := by decide +kernel
theorem dX11_check_55 : decode cX11_check 55 = .ok (.iload_n 1, 1) := by decide +kernel
theorem dX11_check_56 : decode cX11_check 56 = .ok (.aaload, 1) := by decide +kernel
theorem dX11_check_57 : decode cX11_check 57 = .ok (.iload_n 2, 1) := by decide +kernel
theorem dX11_check_58 : decode cX11_check 58 = .ok (.bipush 100, 2) := by decide +kernel
theorem dX11_check_60 : decode cX11_check 60 = .ok (.irem, 1) := by decide +kernel
theorem dX11_check_61 : decode cX11_check 61 = .ok (.invokevirtual 166, 3) := by decide +kernel
theorem dX11_check_64 : decode cX11_check 64 = .ok (.aload_n 0, 1) := by decide +kernel
theorem dX11_check_65 : decode cX11_check 65 = .ok (.getfield 35, 3) := by decide +kernel
theorem dX11_check_68 : decode cX11_check 68 = .ok (.getfield 170, 3) := by decide +kernel
theorem dX11_check_71 : decode cX11_check 71 = .ok (.lconst 0, 1) := by decide +kernel
theorem dX11_check_72 : decode cX11_check 72 = .ok (.lcmp, 1) := by decide +kernel
theorem dX11_check_73 : decode cX11_check 73 = .ok (.ifCond .ne 9, 3) := by decide +kernel
theorem dX11_check_76 : decode cX11_check 76 = .ok (.ldc2_w 174, 3) := by decide +kernel
theorem dX11_check_79 : decode cX11_check 79 = .ok (.goto 26, 3) := by decide +kernel
theorem dX11_check_82 : decode cX11_check 82 = .ok (.aload_n 0, 1) := by decide +kernel
theorem dX11_check_83 : decode cX11_check 83 = .ok (.getfield 35, 3) := by decide +kernel
theorem dX11_check_86 : decode cX11_check 86 = .ok (.getfield 176, 3) := by decide +kernel
theorem dX11_check_89 : decode cX11_check 89 = .ok (.iload_n 2, 1) := by decide +kernel
theorem dX11_check_90 : decode cX11_check 90 = .ok (.bipush 100, 2) := by decide +kernel
theorem dX11_check_92 : decode cX11_check 92 = .ok (.idiv, 1) := by decide +kernel
theorem dX11_check_93 : decode cX11_check 93 = .ok (.laload, 1) := by decide +kernel
theorem dX11_check_94 : decode cX11_check 94 = .ok (.aload_n 0, 1) := by decide +kernel
theorem dX11_check_95 : decode cX11_check 95 = .ok (.getfield 35, 3) := by decide +kernel
theorem dX11_check_98 : decode cX11_check 98 = .ok (.getfield 170, 3) := by decide +kernel
theorem dX11_check_101 : decode cX11_check 101 = .ok (.iload_n 3, 1) := by decide +kernel
theorem dX11_check_102 : decode cX11_check 102 = .ok (.invokestatic 158, 3) := by decide +kernel
theorem dX11_check_105 : decode cX11_check 105 = .ok (.lreturn, 1) := by decide +kernel
def f_X11_check (σ : St) (p1 : Int32) (p2 : Int32) (p3 : Int32) : Option (Int64 × St) := if p2 < 0 then (some ((-9223372036854775808 : Int64), σ)) else (bnd2 (f_X6_has σ (p2 / (100 : Int32))) (fun r3 σ4 => if r3 = 0 then (some ((-9223372036854775808 : Int64), σ4)) else (bnd1 (f_X11_ofTwelve (p2 - p2 / (100 : Int32) * (100 : Int32))) (fun r7 => if r7 = 0 then (some ((-9223372036854775808 : Int64), σ4)) else (bnd1 (f_X11_fractionPart p3) (fun r10 => if r10 = 0 then (some ((-9223372036854775808 : Int64), σ4)) else (bnd2 (f_X11_refusedBytes σ4 p1) (fun r13 σ14 => if r13 = 0 then (chk (p1 < 0 ∨ 6 ≤ p1.toNatClampNeg) (bnd1 (f_X3_weigh σ14 ((p1.toNatClampNeg)) (p2 - p2 / (100 : Int32) * (100 : Int32))) (fun σ18 => if σ18.2.1 153 0 = (0 : Int64) then (some ((-2 : Int64), σ18)) else (chk (p2 / (100 : Int32) < 0 ∨ 10 ≤ (p2 / (100 : Int32)).toNatClampNeg) (bnd1 (f_X11_lowest (σ18.2.2.2.1 152 0 (p2 / (100 : Int32)).toNatClampNeg) (σ18.2.1 153 0) p3) (fun r22 => some (r22, σ18))))))) else (some ((-9223372036854775808 : Int64), σ14))))))))))
set_option maxHeartbeats 4000000 in
set_option maxRecDepth 100000 in
theorem c_X11_check {l : Launch} {g : va_G} {ts : ClassId × ClassId × ClassId} {a : Nat → Nat} {σ : St} {p1 : Int32} {p2 : Int32} {p3 : Int32} {r : Int64} {σ' : St} (hf : f_X11_check σ p1 p2 p3 = some (r, σ')) : ConL l g ts (WC ts a) yX11_check cX11_check 4 (some .long) (rk 5 133) σ [.ref (a 0), .int p1, .int p2, .int p3] r σ' := by
  refine ConL_mk rfl rfl (by decide) (Nat.le_of_ble_eq_true rfl) ?_
  intro p e s m below meth c A Q ls C hQ hP hD hS hl
  have C : FX p s m _ meth c RX11 cX11_check 4 g ts A := C
  have hx := C.1
  have hb := C.2.1
  have hown := C.2.2.2.1
  have hts := C.2.2.2.2.1
  have hl : lv_has ls 4 [(0, .ref (a 0)), (1, .int p1), (2, .int p2), (3, .int p3)] := hl
  rw [f_X11_check] at hf
  refine lv_iload_n hx hb dX11_check_0 rfl (lv_at hl 2 rfl) ?_
  refine lv_if_lt (tgt := 43) hx hb dX11_check_1 (by decide) (fun c1 => ?_) (fun c1 => ?_)
  · replace hf := ipos c1 hf
    refine lv_ldc2 hx hb hown (hts _ q_661) dX11_check_43 ?_
    exact retL hQ hf dX11_check_46 hP hD hS
  · replace hf := ineg c1 hf
    refine lv_aload_n hx hb dX11_check_4 rfl (lv_at hl 0 rfl) ?_
    refine G_X11_names C hP q_381 dX11_check_5 ?_
    refine lv_iload_n hx hb dX11_check_8 rfl (lv_at hl 2 rfl) ?_
    refine lv_bipush (v := 100) hx hb dX11_check_9 (by decide) ?_
    refine lv_idiv hx hb dX11_check_11 (by decide) ?_
    obtain ⟨r3, σ4, h2, hf⟩ := bnd2_some hf
    refine vI [] C hP hD hS (c_X6_has h2) mv_X6_has q_465 rv_X6 dX11_check_12 ⟨Nat.le_of_ble_eq_true rfl, Nat.le_of_ble_eq_true rfl⟩ ⟨Nat.zero_le _, Nat.zero_le _⟩ rfl rfl (Nat.le_of_ble_eq_true rfl) hl.1 (fun H locs hP hD hS => ?_)
    refine lv_if_eq (tgt := 43) hx hb dX11_check_15 (by decide) (fun c5 => ?_) (fun c5 => ?_)
    · replace hf := ipos c5 hf
      refine lv_ldc2 hx hb hown (hts _ q_661) dX11_check_43 ?_
      exact retL hQ hf dX11_check_46 hP hD hS
    · replace hf := ineg c5 hf
      refine lv_iload_n hx hb dX11_check_18 rfl (lv_at hl 2 rfl) ?_
      refine lv_bipush (v := 100) hx hb dX11_check_19 (by decide) ?_
      refine lv_irem hx hb dX11_check_21 (by decide) ?_
      obtain ⟨r7, h6, hf⟩ := bnd1_some hf
      refine tI [] C hP hD hS (c_X11_ofTwelve h6) ms_X11_ofTwelve q_719 dX11_check_22 ⟨Nat.le_of_ble_eq_true rfl, Nat.le_of_ble_eq_true rfl⟩ ⟨Nat.zero_le _, Nat.zero_le _⟩ rfl rfl (Nat.le_of_ble_eq_true rfl) hl.1 (fun H locs hP hD hS => ?_)
      refine lv_if_eq (tgt := 43) hx hb dX11_check_25 (by decide) (fun c8 => ?_) (fun c8 => ?_)
      · replace hf := ipos c8 hf
        refine lv_ldc2 hx hb hown (hts _ q_661) dX11_check_43 ?_
        exact retL hQ hf dX11_check_46 hP hD hS
      · replace hf := ineg c8 hf
        refine lv_iload_n hx hb dX11_check_28 rfl (lv_at hl 3 rfl) ?_
        obtain ⟨r10, h9, hf⟩ := bnd1_some hf
        refine tI [] C hP hD hS (c_X11_fractionPart h9) ms_X11_fractionPart q_658 dX11_check_29 ⟨Nat.le_of_ble_eq_true rfl, Nat.le_of_ble_eq_true rfl⟩ ⟨Nat.zero_le _, Nat.zero_le _⟩ rfl rfl (Nat.le_of_ble_eq_true rfl) hl.1 (fun H locs hP hD hS => ?_)
        refine lv_if_eq (tgt := 43) hx hb dX11_check_32 (by decide) (fun c11 => ?_) (fun c11 => ?_)
        · replace hf := ipos c11 hf
          refine lv_ldc2 hx hb hown (hts _ q_661) dX11_check_43 ?_
          exact retL hQ hf dX11_check_46 hP hD hS
        · replace hf := ineg c11 hf
          refine lv_aload_n hx hb dX11_check_35 rfl (lv_at hl 0 rfl) ?_
          refine lv_iload_n hx hb dX11_check_36 rfl (lv_at hl 1 rfl) ?_
          obtain ⟨r13, σ14, h12, hf⟩ := bnd2_some hf
          refine vI [] C hP hD hS (c_X11_refusedBytes h12) mv_X11_refusedBytes q_421 rv_X11 dX11_check_37 ⟨Nat.le_of_ble_eq_true rfl, Nat.le_of_ble_eq_true rfl⟩ ⟨Nat.zero_le _, Nat.zero_le _⟩ rfl rfl (Nat.le_of_ble_eq_true rfl) hl.1 (fun H locs hP hD hS => ?_)
          refine lv_if_eq (tgt := 47) hx hb dX11_check_40 (by decide) (fun c15 => ?_) (fun c15 => ?_)
          · replace hf := ipos c15 hf
            refine lv_aload_n hx hb dX11_check_47 rfl (lv_at hl 0 rfl) ?_
            refine G_X11_guess C hP q_383 dX11_check_48 ?_
            refine lv_aload_n hx hb dX11_check_51 rfl (lv_at hl 0 rfl) ?_
            refine G_X11_shelves C hP q_390 dX11_check_52 ?_
            refine lv_iload_n hx hb dX11_check_55 rfl (lv_at hl 1 rfl) ?_
            obtain ⟨h16, hf⟩ := chk_some hf
            refine AL_shelves C hP h16 dX11_check_56 ?_
            refine lv_iload_n hx hb dX11_check_57 rfl (lv_at hl 2 rfl) ?_
            refine lv_bipush (v := 100) hx hb dX11_check_58 (by decide) ?_
            refine lv_irem hx hb dX11_check_60 (by decide) ?_
            obtain ⟨σ18, h17, hf⟩ := bnd1_some hf
            refine vV [] C hP hD hS (c_X3_weigh (Nat.not_le.mp fun q => h16 (Or.inr q)) h17) mv_X3_weigh q_690 rv_X3 dX11_check_61 ⟨Nat.le_of_ble_eq_true rfl, Nat.le_of_ble_eq_true rfl⟩ ⟨Nat.zero_le _, Nat.zero_le _⟩ rfl rfl (Nat.le_of_ble_eq_true rfl) hl.1 (fun H locs hP hD hS => ?_)
            refine lv_aload_n hx hb dX11_check_64 rfl (lv_at hl 0 rfl) ?_
            refine G_X11_guess C hP q_383 dX11_check_65 ?_
            refine G_X3_all C hP q_207 dX11_check_68 ?_
            refine lv_lconst (v := 0) hx hb dX11_check_71 (by decide) ?_
            refine lb_ne (tgt := 82) hx hb dX11_check_72 dX11_check_73 (by decide) (fun c19 => ?_) (fun c19 => ?_)
            · replace hf := ineg c19 hf
              refine lv_aload_n hx hb dX11_check_82 rfl (lv_at hl 0 rfl) ?_
              refine G_X11_guess C hP q_383 dX11_check_83 ?_
              refine G_X3_products C hP q_205 dX11_check_86 ?_
              refine lv_iload_n hx hb dX11_check_89 rfl (lv_at hl 2 rfl) ?_
              refine lv_bipush (v := 100) hx hb dX11_check_90 (by decide) ?_
              refine lv_idiv hx hb dX11_check_92 (by decide) ?_
              obtain ⟨h20, hf⟩ := chk_some hf
              refine AL_X3_products C hP h20 dX11_check_93 ?_
              refine lv_aload_n hx hb dX11_check_94 rfl (lv_at hl 0 rfl) ?_
              refine G_X11_guess C hP q_383 dX11_check_95 ?_
              refine G_X3_all C hP q_207 dX11_check_98 ?_
              refine lv_iload_n hx hb dX11_check_101 rfl (lv_at hl 3 rfl) ?_
              obtain ⟨r22, h21, hf⟩ := bnd1_some hf
              refine tL [] C hP hD hS (c_X11_lowest h21) ms_X11_lowest q_679 dX11_check_102 ⟨Nat.le_of_ble_eq_true rfl, Nat.le_of_ble_eq_true rfl⟩ ⟨Nat.zero_le _, Nat.zero_le _⟩ rfl rfl (Nat.le_of_ble_eq_true rfl) hl.1 (fun H locs hP hD hS => ?_)
              exact retL hQ hf dX11_check_105 hP hD hS
            · replace hf := ipos c19 hf
              refine lv_ldc2 hx hb hown (hts _ q_706) dX11_check_76 ?_
              refine lv_goto (tgt := 105) hx hb dX11_check_79 (by decide) ?_
              exact retL hQ hf dX11_check_105 hP hD hS
          · replace hf := ineg c15 hf
            refine lv_ldc2 hx hb hown (hts _ q_661) dX11_check_43 ?_
            exact retL hQ hf dX11_check_46 hP hD hS
theorem dX11_again_0 : decode cX11_again 0 = .ok (.iload_n 2, 1) := by decide +kernel
theorem dX11_again_1 : decode cX11_again 1 = .ok (.invokestatic 150, 3) := by decide +kernel
theorem dX11_again_4 : decode cX11_again 4 = .ok (.ifCond .ne 8, 3) := by decide +kernel
theorem dX11_again_7 : decode cX11_again 7 = .ok (.iload_n 2, 1) := by decide +kernel
theorem dX11_again_8 : decode cX11_again 8 = .ok (.iconst 2, 1) := by decide +kernel
theorem dX11_again_9 : decode cX11_again 9 = .ok (.if_icmp .ne 11, 3) := by decide +kernel
theorem dX11_again_12 : decode cX11_again 12 = .ok (.aload_n 0, 1) := by decide +kernel
theorem dX11_again_13 : decode cX11_again 13 = .ok (.iload_n 1, 1) := by decide +kernel
theorem dX11_again_14 : decode cX11_again 14 = .ok (.invokevirtual 86, 3) := by decide +kernel
theorem dX11_again_17 : decode cX11_again 17 = .ok (.ifCond .eq 7, 3) := by decide +kernel
theorem dX11_again_20 : decode cX11_again 20 = .ok (.ldc2_w 153, 3) := by decide +kernel
theorem dX11_again_23 : decode cX11_again 23 = .ok (.lreturn, 1) := by decide +kernel
theorem dX11_again_24 : decode cX11_again 24 = .ok (.aload_n 0, 1) := by decide +kernel
theorem dX11_again_25 : decode cX11_again 25 = .ok (.getfield 35, 3) := by decide +kernel
theorem dX11_again_28 : decode cX11_again 28 = .ok (.aload_n 0, 1) := by decide +kernel
theorem dX11_again_29 : decode cX11_again 29 = .ok (.getfield 81, 3) := by decide +kernel
theorem dX11_again_32 : decode cX11_again 32 = .ok (.iload_n 1, 1) := by decide +kernel
theorem dX11_again_33 : decode cX11_again 33 = .ok (.aaload, 1) := by decide +kernel
theorem dX11_again_34 : decode cX11_again 34 = .ok (.iconst (-1), 1) := by decide +kernel
theorem dX11_again_35 : decode cX11_again 35 = .ok (.invokevirtual 166, 3) := by decide +kernel
theorem dX11_again_38 : decode cX11_again 38 = .ok (.aload_n 0, 1) := by decide +kernel
theorem dX11_again_39 : decode cX11_again 39 = .ok (.getfield 35, 3) := by decide +kernel
theorem dX11_again_42 : decode cX11_again 42 = .ok (.getfield 170, 3) := by decide +kernel
theorem dX11_again_45 : decode cX11_again 45 = .ok (.lconst 0, 1) := by decide +kernel
theorem dX11_again_46 : decode cX11_again 46 = .ok (.lcmp, 1) := by decide +kernel
theorem dX11_again_47 : decode cX11_again 47 = .ok (.ifCond .ne 7, 3) := by decide +kernel
theorem dX11_again_50 : decode cX11_again 50 = .ok (.ldc2_w 174, 3) := by decide +kernel
theorem dX11_again_53 : decode cX11_again 53 = .ok (.lreturn, 1) := by decide +kernel
theorem dX11_again_54 : decode cX11_again 54 = .ok (.aload_n 0, 1) := by decide +kernel
theorem dX11_again_55 : decode cX11_again 55 = .ok (.getfield 35, 3) := by decide +kernel
theorem dX11_again_58 : decode cX11_again 58 = .ok (.aload_n 0, 1) := by decide +kernel
theorem dX11_again_59 : decode cX11_again 59 = .ok (.getfield 81, 3) := by decide +kernel
theorem dX11_again_62 : decode cX11_again 62 = .ok (.iload_n 1, 1) := by decide +kernel
theorem dX11_again_63 : decode cX11_again 63 = .ok (.aaload, 1) := by decide +kernel
theorem dX11_again_64 : decode cX11_again 64 = .ok (.getfield 189, 3) := by decide +kernel
theorem dX11_again_67 : decode cX11_again 67 = .ok (.invokevirtual 190, 3) := by decide +kernel
theorem dX11_again_70 : decode cX11_again 70 = .ok (.istore_n 3, 1) := by decide +kernel
theorem dX11_again_71 : decode cX11_again 71 = .ok (.iload_n 2, 1) := by decide +kernel
theorem dX11_again_72 : decode cX11_again 72 = .ok (.iconst 2, 1) := by decide +kernel
theorem dX11_again_73 : decode cX11_again 73 = .ok (.if_icmp .ne 8, 3) := by decide +kernel
theorem dX11_again_76 : decode cX11_again 76 = .ok (.iload_n 3, 1) := by decide +kernel
theorem dX11_again_77 : decode cX11_again 77 = .ok (.i2l, 1) := by decide +kernel
theorem dX11_again_78 : decode cX11_again 78 = .ok (.goto 26, 3) := by decide +kernel
theorem dX11_again_81 : decode cX11_again 81 = .ok (.aload_n 0, 1) := by decide +kernel
theorem dX11_again_82 : decode cX11_again 82 = .ok (.getfield 35, 3) := by decide +kernel
theorem dX11_again_85 : decode cX11_again 85 = .ok (.iload_n 3, 1) := by decide +kernel
theorem dX11_again_86 : decode cX11_again 86 = .ok (.invokevirtual 193, 3) := by decide +kernel
theorem dX11_again_89 : decode cX11_again 89 = .ok (.ldc2_w 197, 3) := by decide +kernel
theorem dX11_again_92 : decode cX11_again 92 = .ok (.aload_n 0, 1) := by decide +kernel
theorem dX11_again_93 : decode cX11_again 93 = .ok (.getfield 35, 3) := by decide +kernel
theorem dX11_again_96 : decode cX11_again 96 = .ok (.getfield 170, 3) := by decide +kernel
theorem dX11_again_99 : decode cX11_again 99 = .ok (.lmul, 1) := by decide +kernel
theorem dX11_again_100 : decode cX11_again 100 = .ok (.iload_n 2, 1) := by decide +kernel
theorem dX11_again_101 : decode cX11_again 101 = .ok (.invokestatic 158, 3) := by decide +kernel
theorem dX11_again_104 : decode cX11_again 104 = .ok (.lreturn, 1) := by decide +kernel
def f_X11_again_b12 (σ : St) (x1 : Int32) (x2 : Int32) : Option (Int64 × St) := bnd2 (f_X11_refusedBytes σ x1) (fun r6 σ7 => if r6 = 0 then (chk (x1 < 0 ∨ 6 ≤ x1.toNatClampNeg) (bnd1 (f_X3_weigh σ7 ((x1.toNatClampNeg)) (-1 : Int32)) (fun σ11 => if σ11.2.1 153 0 = (0 : Int64) then (some ((-2 : Int64), σ11)) else (chk (x1 < 0 ∨ 6 ≤ x1.toNatClampNeg) (bnd2 (f_X3_placeToAsk σ11 (σ11.1 403 (x1.toNatClampNeg))) (fun r15 σ16 => if x2 = (2 : Int32) then (some ((r15 : Int32).toInt64, σ16)) else (bnd2 (f_X3_onceMore σ16 r15) (fun r19 σ20 => bnd1 (f_X11_lowest r19 ((100 : Int64) * (σ20.2.1 153 0)) x2) (fun r22 => some (r22, σ20)))))))))) else (some ((-9223372036854775808 : Int64), σ7)))
def f_X11_again (σ : St) (p1 : Int32) (p2 : Int32) : Option (Int64 × St) := bnd1 (f_X11_fractionPart p2) (fun r2 => if r2 = 0 then (if p2 = (2 : Int32) then (f_X11_again_b12 σ p1 p2) else (some ((-9223372036854775808 : Int64), σ))) else (f_X11_again_b12 σ p1 p2))
set_option maxHeartbeats 4000000 in
set_option maxRecDepth 100000 in
theorem w_X11_again_b12 {p : Program} {l : Launch} {e : Env} {s : State} {m : MethodId} {args : Array Value} {below : List Frame} {meth : Method} {c : Code} {g : va_G} {ts : ClassId × ClassId × ClassId} {A : Nat → Prop} {Q : State → Prop} {a : Nat → Nat} {r : Int64} {σ' : St} (C : FX p s m args meth c RX11 cX11_again 4 g ts A) (hQ : RetL p l e (rk 6 162) s m args below meth c cX11_again g (WC ts a) A r σ' Q) : ∀ (σ : St) (x1 : Int32) (x2 : Int32) (H : Heap) (locs : List Loc) (ls : Array Slot), f_X11_again_b12 σ x1 x2 = some (r, σ') → va_P g classes (WC ts a σ) H → va_D A (WC ts a σ) → va_S A s.heap H locs → lv_has ls 4 [(0, .ref (a 0)), (1, .int x1), (2, .int x2)] → W p l e (rk 6 162) s m args below meth c H locs 0 0 Q (F0 m 12 ls []) := by
  have hx := C.1
  have hb := C.2.1
  have hown := C.2.2.2.1
  have hts := C.2.2.2.2.1
  intro σ x1 x2 H locs ls hf hP hD hS hl
  rw [f_X11_again_b12] at hf
  refine lv_aload_n hx hb dX11_again_12 rfl (lv_at hl 0 rfl) ?_
  refine lv_iload_n hx hb dX11_again_13 rfl (lv_at hl 1 rfl) ?_
  obtain ⟨r6, σ7, h5, hf⟩ := bnd2_some hf
  refine vI [] C hP hD hS (c_X11_refusedBytes h5) mv_X11_refusedBytes q_421 rv_X11 dX11_again_14 ⟨Nat.le_of_ble_eq_true rfl, Nat.le_of_ble_eq_true rfl⟩ ⟨Nat.zero_le _, Nat.zero_le _⟩ rfl rfl (Nat.le_of_ble_eq_true rfl) hl.1 (fun H locs hP hD hS => ?_)
  refine lv_if_eq (tgt := 24) hx hb dX11_again_17 (by decide) (fun c8 => ?_) (fun c8 => ?_)
  · replace hf := ipos c8 hf
    refine lv_aload_n hx hb dX11_again_24 rfl (lv_at hl 0 rfl) ?_
    refine G_X11_guess C hP q_383 dX11_again_25 ?_
    refine lv_aload_n hx hb dX11_again_28 rfl (lv_at hl 0 rfl) ?_
    refine G_X11_shelves C hP q_390 dX11_again_29 ?_
    refine lv_iload_n hx hb dX11_again_32 rfl (lv_at hl 1 rfl) ?_
    obtain ⟨h9, hf⟩ := chk_some hf
    refine AL_shelves C hP h9 dX11_again_33 ?_
    refine lv_iconst (v := -1) hx hb dX11_again_34 (by decide) ?_
    obtain ⟨σ11, h10, hf⟩ := bnd1_some hf
    refine vV [] C hP hD hS (c_X3_weigh (Nat.not_le.mp fun q => h9 (Or.inr q)) h10) mv_X3_weigh q_690 rv_X3 dX11_again_35 ⟨Nat.le_of_ble_eq_true rfl, Nat.le_of_ble_eq_true rfl⟩ ⟨Nat.zero_le _, Nat.zero_le _⟩ rfl rfl (Nat.le_of_ble_eq_true rfl) hl.1 (fun H locs hP hD hS => ?_)
    refine lv_aload_n hx hb dX11_again_38 rfl (lv_at hl 0 rfl) ?_
    refine G_X11_guess C hP q_383 dX11_again_39 ?_
    refine G_X3_all C hP q_207 dX11_again_42 ?_
    refine lv_lconst (v := 0) hx hb dX11_again_45 (by decide) ?_
    refine lb_ne (tgt := 54) hx hb dX11_again_46 dX11_again_47 (by decide) (fun c12 => ?_) (fun c12 => ?_)
    · replace hf := ineg c12 hf
      refine lv_aload_n hx hb dX11_again_54 rfl (lv_at hl 0 rfl) ?_
      refine G_X11_guess C hP q_383 dX11_again_55 ?_
      refine lv_aload_n hx hb dX11_again_58 rfl (lv_at hl 0 rfl) ?_
      refine G_X11_shelves C hP q_390 dX11_again_59 ?_
      refine lv_iload_n hx hb dX11_again_62 rfl (lv_at hl 1 rfl) ?_
      obtain ⟨h13, hf⟩ := chk_some hf
      refine AL_shelves C hP h13 dX11_again_63 ?_
      refine G_X8_length (Nat.not_le.mp fun q => h13 (Or.inr q)) C hP q_370 dX11_again_64 ?_
      obtain ⟨r15, σ16, h14, hf⟩ := bnd2_some hf
      refine vI [] C hP hD hS (c_X3_placeToAsk h14) mv_X3_placeToAsk q_730 rv_X3 dX11_again_67 ⟨Nat.le_of_ble_eq_true rfl, Nat.le_of_ble_eq_true rfl⟩ ⟨Nat.zero_le _, Nat.zero_le _⟩ rfl rfl (Nat.le_of_ble_eq_true rfl) hl.1 (fun H locs hP hD hS => ?_)
      refine lv_istore_n (lv' := [(3, .int r15), (0, .ref (a 0)), (1, .int x1), (2, .int x2)]) hx hb dX11_again_70 rfl hl (by decide) rfl (fun ls hl => ?_)
      refine lv_iload_n hx hb dX11_again_71 rfl (lv_at hl 3 rfl) ?_
      refine lv_iconst (v := 2) hx hb dX11_again_72 (by decide) ?_
      refine lv_icmp_ne (tgt := 81) hx hb dX11_again_73 (by decide) (fun c17 => ?_) (fun c17 => ?_)
      · replace hf := ineg c17 hf
        refine lv_aload_n hx hb dX11_again_81 rfl (lv_at hl 1 rfl) ?_
        refine G_X11_guess C hP q_383 dX11_again_82 ?_
        refine lv_iload_n hx hb dX11_again_85 rfl (lv_at hl 0 rfl) ?_
        obtain ⟨r19, σ20, h18, hf⟩ := bnd2_some hf
        refine vL [] C hP hD hS (c_X3_onceMore h18) mv_X3_onceMore q_742 rv_X3 dX11_again_86 ⟨Nat.le_of_ble_eq_true rfl, Nat.le_of_ble_eq_true rfl⟩ ⟨Nat.zero_le _, Nat.zero_le _⟩ rfl rfl (Nat.le_of_ble_eq_true rfl) hl.1 (fun H locs hP hD hS => ?_)
        refine lv_ldc2 hx hb hown (hts _ q_743) dX11_again_89 ?_
        refine lv_aload_n hx hb dX11_again_92 rfl (lv_at hl 1 rfl) ?_
        refine G_X11_guess C hP q_383 dX11_again_93 ?_
        refine G_X3_all C hP q_207 dX11_again_96 ?_
        refine lv_lmul hx hb dX11_again_99 ?_
        refine lv_iload_n hx hb dX11_again_100 rfl (lv_at hl 3 rfl) ?_
        obtain ⟨r22, h21, hf⟩ := bnd1_some hf
        refine tL [] C hP hD hS (c_X11_lowest h21) ms_X11_lowest q_679 dX11_again_101 ⟨Nat.le_of_ble_eq_true rfl, Nat.le_of_ble_eq_true rfl⟩ ⟨Nat.zero_le _, Nat.zero_le _⟩ rfl rfl (Nat.le_of_ble_eq_true rfl) hl.1 (fun H locs hP hD hS => ?_)
        exact retL hQ hf dX11_again_104 hP hD hS
      · replace hf := ipos c17 hf
        refine lv_iload_n hx hb dX11_again_76 rfl (lv_at hl 0 rfl) ?_
        refine lv_i2l (v := (r15 : Int32).toInt64) hx hb dX11_again_77 rfl ?_
        refine lv_goto (tgt := 104) hx hb dX11_again_78 (by decide) ?_
        exact retL hQ hf dX11_again_104 hP hD hS
    · replace hf := ipos c12 hf
      refine lv_ldc2 hx hb hown (hts _ q_706) dX11_again_50 ?_
      exact retL hQ hf dX11_again_53 hP hD hS
  · replace hf := ineg c8 hf
    refine lv_ldc2 hx hb hown (hts _ q_661) dX11_again_20 ?_
    exact retL hQ hf dX11_again_23 hP hD hS
set_option maxHeartbeats 4000000 in
set_option maxRecDepth 100000 in
theorem c_X11_again {l : Launch} {g : va_G} {ts : ClassId × ClassId × ClassId} {a : Nat → Nat} {σ : St} {p1 : Int32} {p2 : Int32} {r : Int64} {σ' : St} (hf : f_X11_again σ p1 p2 = some (r, σ')) : ConL l g ts (WC ts a) yX11_again cX11_again 4 (some .long) (rk 6 162) σ [.ref (a 0), .int p1, .int p2] r σ' := by
  refine ConL_mk rfl rfl (by decide) (Nat.le_of_ble_eq_true rfl) ?_
  intro p e s m below meth c A Q ls C hQ hP hD hS hl
  have C : FX p s m _ meth c RX11 cX11_again 4 g ts A := C
  have hx := C.1
  have hb := C.2.1
  have hown := C.2.2.2.1
  have hts := C.2.2.2.2.1
  have hl : lv_has ls 4 [(0, .ref (a 0)), (1, .int p1), (2, .int p2)] := hl
  rw [f_X11_again] at hf
  refine lv_iload_n hx hb dX11_again_0 rfl (lv_at hl 2 rfl) ?_
  obtain ⟨r2, h1, hf⟩ := bnd1_some hf
  refine tI [] C hP hD hS (c_X11_fractionPart h1) ms_X11_fractionPart q_658 dX11_again_1 ⟨Nat.le_of_ble_eq_true rfl, Nat.le_of_ble_eq_true rfl⟩ ⟨Nat.zero_le _, Nat.zero_le _⟩ rfl rfl (Nat.le_of_ble_eq_true rfl) hl.1 (fun H locs hP hD hS => ?_)
  refine lv_if_ne (tgt := 12) hx hb dX11_again_4 (by decide) (fun c3 => ?_) (fun c3 => ?_)
  · replace hf := ineg c3 hf
    exact w_X11_again_b12 C hQ _ _ _ _ _ _ hf hP hD hS (lv_sub hl [0, 1, 2] rfl)
  · replace hf := ipos c3 hf
    refine lv_iload_n hx hb dX11_again_7 rfl (lv_at hl 2 rfl) ?_
    refine lv_iconst (v := 2) hx hb dX11_again_8 (by decide) ?_
    refine lv_icmp_ne (tgt := 20) hx hb dX11_again_9 (by decide) (fun c4 => ?_) (fun c4 => ?_)
    · replace hf := ineg c4 hf
      refine lv_ldc2 hx hb hown (hts _ q_661) dX11_again_20 ?_
      exact retL hQ hf dX11_again_23 hP hD hS
    · replace hf := ipos c4 hf
      exact w_X11_again_b12 C hQ _ _ _ _ _ _ hf hP hD hS (lv_sub hl [0, 1, 2] rfl)
theorem dX11_right_0 : decode cX11_right 0 = .ok (.aload_n 0, 1) := by decide +kernel
theorem dX11_right_1 : decode cX11_right 1 = .ok (.getfield 19, 3) := by decide +kernel
theorem dX11_right_4 : decode cX11_right 4 = .ok (.iload_n 1, 1) := by decide +kernel
theorem dX11_right_5 : decode cX11_right 5 = .ok (.iload_n 2, 1) := by decide +kernel
theorem dX11_right_6 : decode cX11_right 6 = .ok (.invokevirtual 199, 3) := by decide +kernel
theorem dX11_right_9 : decode cX11_right 9 = .ok (.ifCond .eq 10, 3) := by decide +kernel
theorem dX11_right_12 : decode cX11_right 12 = .ok (.iload_n 3, 1) := by decide +kernel
theorem dX11_right_13 : decode cX11_right 13 = .ok (.invokestatic 150, 3) := by decide +kernel
theorem dX11_right_16 : decode cX11_right 16 = .ok (.ifCond .ne 7, 3) := by decide +kernel
theorem dX11_right_19 : decode cX11_right 19 = .ok (.ldc2_w 153, 3) := by decide +kernel
theorem dX11_right_22 : decode cX11_right 22 = .ok (.lreturn, 1) := by decide +kernel
theorem dX11_right_23 : decode cX11_right 23 = .ok (.aload_n 0, 1) := by decide +kernel
theorem dX11_right_24 : decode cX11_right 24 = .ok (.getfield 28, 3) := by decide +kernel
theorem dX11_right_27 : decode cX11_right 27 = .ok (.iload_n 1, 1) := by decide +kernel
theorem dX11_right_28 : decode cX11_right 28 = .ok (.invokevirtual 202, 3) := by decide +kernel
theorem dX11_right_31 : decode cX11_right 31 = .ok (.aload_n 0, 1) := by decide +kernel
theorem dX11_right_32 : decode cX11_right 32 = .ok (.getfield 28, 3) := by decide +kernel
theorem dX11_right_35 : decode cX11_right 35 = .ok (.iload_n 1, 1) := by decide +kernel
theorem dX11_right_36 : decode cX11_right 36 = .ok (.iload_n 2, 1) := by decide +kernel
theorem dX11_right_37 : decode cX11_right 37 = .ok (.invokevirtual 206, 3) := by decide +kernel
theorem dX11_right_40 : decode cX11_right 40 = .ok (.getstatic 210, 3) := by decide +kernel
theorem dX11_right_43 : decode cX11_right 43 = .ok (.aload_n 0, 1) := by decide +kernel
theorem dX11_right_44 : decode cX11_right 44 = .ok (.getfield 19, 3) := by decide +kernel
theorem dX11_right_47 : decode cX11_right 47 = .ok (.getfield 123, 3) := by decide +kernel
theorem dX11_right_50 : decode cX11_right 50 = .ok (.iload_n 1, 1) := by decide +kernel
theorem dX11_right_51 : decode cX11_right 51 = .ok (.iaload, 1) := by decide +kernel
theorem dX11_right_52 : decode cX11_right 52 = .ok (.laload, 1) := by decide +kernel
theorem dX11_right_53 : decode cX11_right 53 = .ok (.iload_n 3, 1) := by decide +kernel
theorem dX11_right_54 : decode cX11_right 54 = .ok (.invokestatic 158, 3) := by decide +kernel
theorem dX11_right_57 : decode cX11_right 57 = .ok (.lreturn, 1) := by decide +kernel
def f_X11_right (σ : St) (p1 : Int32) (p2 : Int32) (p3 : Int32) : Option (Int64 × St) := bnd2 (f_X6_hasSet σ p1 p2) (fun r2 σ3 => if r2 = 0 then (some ((-9223372036854775808 : Int64), σ3)) else (bnd1 (f_X11_fractionPart p3) (fun r6 => if r6 = 0 then (some ((-9223372036854775808 : Int64), σ3)) else (bnd1 (f_X9_prepare σ3 p1) (fun σ9 => bnd2 (f_X9_rightBy σ9 p1 p2) (fun r11 σ12 => chk (p1 < 0 ∨ 10 ≤ p1.toNatClampNeg) (chk (σ12.2.2.1 301 0 p1.toNatClampNeg < 0 ∨ 7 ≤ (σ12.2.2.1 301 0 p1.toNatClampNeg).toNatClampNeg) (bnd1 (f_X11_lowest r11 (hundA (σ12.2.2.1 301 0 p1.toNatClampNeg).toNatClampNeg) p3) (fun r17 => some (r17, σ12))))))))))
set_option maxHeartbeats 4000000 in
set_option maxRecDepth 100000 in
theorem c_X11_right {l : Launch} {g : va_G} {ts : ClassId × ClassId × ClassId} {a : Nat → Nat} {σ : St} {p1 : Int32} {p2 : Int32} {p3 : Int32} {r : Int64} {σ' : St} (hf : f_X11_right σ p1 p2 p3 = some (r, σ')) : ConL l g ts (WC ts a) yX11_right cX11_right 4 (some .long) (rk 5 130) σ [.ref (a 0), .int p1, .int p2, .int p3] r σ' := by
  refine ConL_mk rfl rfl (by decide) (Nat.le_of_ble_eq_true rfl) ?_
  intro p e s m below meth c A Q ls C hQ hP hD hS hl
  have C : FX p s m _ meth c RX11 cX11_right 4 g ts A := C
  have hx := C.1
  have hb := C.2.1
  have hown := C.2.2.2.1
  have hts := C.2.2.2.2.1
  have hl : lv_has ls 4 [(0, .ref (a 0)), (1, .int p1), (2, .int p2), (3, .int p3)] := hl
  rw [f_X11_right] at hf
  refine lv_aload_n hx hb dX11_right_0 rfl (lv_at hl 0 rfl) ?_
  refine G_X11_names C hP q_381 dX11_right_1 ?_
  refine lv_iload_n hx hb dX11_right_4 rfl (lv_at hl 1 rfl) ?_
  refine lv_iload_n hx hb dX11_right_5 rfl (lv_at hl 2 rfl) ?_
  obtain ⟨r2, σ3, h1, hf⟩ := bnd2_some hf
  refine vI [] C hP hD hS (c_X6_hasSet h1) mv_X6_hasSet q_748 rv_X6 dX11_right_6 ⟨Nat.le_of_ble_eq_true rfl, Nat.le_of_ble_eq_true rfl⟩ ⟨Nat.zero_le _, Nat.zero_le _⟩ rfl rfl (Nat.le_of_ble_eq_true rfl) hl.1 (fun H locs hP hD hS => ?_)
  refine lv_if_eq (tgt := 19) hx hb dX11_right_9 (by decide) (fun c4 => ?_) (fun c4 => ?_)
  · replace hf := ipos c4 hf
    refine lv_ldc2 hx hb hown (hts _ q_661) dX11_right_19 ?_
    exact retL hQ hf dX11_right_22 hP hD hS
  · replace hf := ineg c4 hf
    refine lv_iload_n hx hb dX11_right_12 rfl (lv_at hl 3 rfl) ?_
    obtain ⟨r6, h5, hf⟩ := bnd1_some hf
    refine tI [] C hP hD hS (c_X11_fractionPart h5) ms_X11_fractionPart q_658 dX11_right_13 ⟨Nat.le_of_ble_eq_true rfl, Nat.le_of_ble_eq_true rfl⟩ ⟨Nat.zero_le _, Nat.zero_le _⟩ rfl rfl (Nat.le_of_ble_eq_true rfl) hl.1 (fun H locs hP hD hS => ?_)
    refine lv_if_ne (tgt := 23) hx hb dX11_right_16 (by decide) (fun c7 => ?_) (fun c7 => ?_)
    · replace hf := ineg c7 hf
      refine lv_aload_n hx hb dX11_right_23 rfl (lv_at hl 0 rfl) ?_
      refine G_X11_speech C hP q_382 dX11_right_24 ?_
      refine lv_iload_n hx hb dX11_right_27 rfl (lv_at hl 1 rfl) ?_
      obtain ⟨σ9, h8, hf⟩ := bnd1_some hf
      refine vV [] C hP hD hS (c_X9_prepare h8) mv_X9_prepare q_753 rv_X9 dX11_right_28 ⟨Nat.le_of_ble_eq_true rfl, Nat.le_of_ble_eq_true rfl⟩ ⟨Nat.zero_le _, Nat.zero_le _⟩ rfl rfl (Nat.le_of_ble_eq_true rfl) hl.1 (fun H locs hP hD hS => ?_)
      refine lv_aload_n hx hb dX11_right_31 rfl (lv_at hl 0 rfl) ?_
      refine G_X11_speech C hP q_382 dX11_right_32 ?_
      refine lv_iload_n hx hb dX11_right_35 rfl (lv_at hl 1 rfl) ?_
      refine lv_iload_n hx hb dX11_right_36 rfl (lv_at hl 2 rfl) ?_
      obtain ⟨r11, σ12, h10, hf⟩ := bnd2_some hf
      refine vL [] C hP hD hS (c_X9_rightBy h10) mv_X9_rightBy q_759 rv_X9 dX11_right_37 ⟨Nat.le_of_ble_eq_true rfl, Nat.le_of_ble_eq_true rfl⟩ ⟨Nat.zero_le _, Nat.zero_le _⟩ rfl rfl (Nat.le_of_ble_eq_true rfl) hl.1 (fun H locs hP hD hS => ?_)
      obtain ⟨t13, hZt13, hTt13⟩ := C.2.2.2.2.2.2.2.2.1
      refine va_gets hx hb hZt13 hS hown (hts _ q_763) (fun _ h => h) dX11_right_40 ?_
      refine lv_aload_n hx hb dX11_right_43 rfl (lv_at hl 0 rfl) ?_
      refine G_X11_names C hP q_381 dX11_right_44 ?_
      refine G_X6_sizes C hP q_159 dX11_right_47 ?_
      refine lv_iload_n hx hb dX11_right_50 rfl (lv_at hl 1 rfl) ?_
      obtain ⟨h14, hf⟩ := chk_some hf
      refine AL_X6_sizes C hP h14 dX11_right_51 ?_
      obtain ⟨h15, hf⟩ := chk_some hf
      refine va_tl hx hb hTt13 hS h15 rfl dX11_right_52 ?_
      refine lv_iload_n hx hb dX11_right_53 rfl (lv_at hl 3 rfl) ?_
      obtain ⟨r17, h16, hf⟩ := bnd1_some hf
      refine tL [] C hP hD hS (c_X11_lowest h16) ms_X11_lowest q_679 dX11_right_54 ⟨Nat.le_of_ble_eq_true rfl, Nat.le_of_ble_eq_true rfl⟩ ⟨Nat.zero_le _, Nat.zero_le _⟩ rfl rfl (Nat.le_of_ble_eq_true rfl) hl.1 (fun H locs hP hD hS => ?_)
      exact retL hQ hf dX11_right_57 hP hD hS
    · replace hf := ipos c7 hf
      refine lv_ldc2 hx hb hown (hts _ q_661) dX11_right_19 ?_
      exact retL hQ hf dX11_right_22 hP hD hS
theorem dX11_time_0 : decode cX11_time 0 = .ok (.aload_n 0, 1) := by decide +kernel
theorem dX11_time_1 : decode cX11_time 1 = .ok (.getfield 19, 3) := by decide +kernel
theorem dX11_time_4 : decode cX11_time 4 = .ok (.iload_n 1, 1) := by decide +kernel
theorem dX11_time_5 : decode cX11_time 5 = .ok (.iload_n 2, 1) := by decide +kernel
theorem dX11_time_6 : decode cX11_time 6 = .ok (.invokevirtual 199, 3) := by decide +kernel
theorem dX11_time_9 : decode cX11_time 9 = .ok (.ifCond .eq 15, 3) := by decide +kernel
theorem dX11_time_12 : decode cX11_time 12 = .ok (.aload_n 0, 1) := by decide +kernel
theorem dX11_time_13 : decode cX11_time 13 = .ok (.getfield 28, 3) := by decide +kernel
theorem dX11_time_16 : decode cX11_time 16 = .ok (.iload_n 1, 1) := by decide +kernel
theorem dX11_time_17 : decode cX11_time 17 = .ok (.iload_n 2, 1) := by decide +kernel
theorem dX11_time_18 : decode cX11_time 18 = .ok (.invokevirtual 213, 3) := by decide +kernel
theorem dX11_time_21 : decode cX11_time 21 = .ok (.goto 4, 3) := by decide +kernel
theorem dX11_time_24 : decode cX11_time 24 = .ok (.iconst (-1), 1) := by decide +kernel
theorem dX11_time_25 : decode cX11_time 25 = .ok (.ireturn, 1) := by decide +kernel
def f_X11_time (σ : St) (p1 : Int32) (p2 : Int32) : Option (Int32 × St) := bnd2 (f_X6_hasSet σ p1 p2) (fun r2 σ3 => if r2 = 0 then (some ((-1 : Int32), σ3)) else (bnd2 (f_X9_lasts σ3 p1 p2) (fun r6 σ7 => some (r6, σ7))))
set_option maxHeartbeats 4000000 in
set_option maxRecDepth 100000 in
theorem c_X11_time {l : Launch} {g : va_G} {ts : ClassId × ClassId × ClassId} {a : Nat → Nat} {σ : St} {p1 : Int32} {p2 : Int32} {r : Int32} {σ' : St} (hf : f_X11_time σ p1 p2 = some (r, σ')) : ConI l g ts (WC ts a) yX11_time cX11_time 3 (some .int) (rk 2 46) σ [.ref (a 0), .int p1, .int p2] r σ' := by
  refine ConI_mk .int rfl rfl rfl rfl (by decide) (Nat.le_of_ble_eq_true rfl) ?_
  intro p e s m below meth c A Q ls C hQ hP hD hS hl
  have C : FX p s m _ meth c RX11 cX11_time 3 g ts A := C
  have hx := C.1
  have hb := C.2.1
  have hown := C.2.2.2.1
  have hts := C.2.2.2.2.1
  have hl : lv_has ls 3 [(0, .ref (a 0)), (1, .int p1), (2, .int p2)] := hl
  rw [f_X11_time] at hf
  refine lv_aload_n hx hb dX11_time_0 rfl (lv_at hl 0 rfl) ?_
  refine G_X11_names C hP q_381 dX11_time_1 ?_
  refine lv_iload_n hx hb dX11_time_4 rfl (lv_at hl 1 rfl) ?_
  refine lv_iload_n hx hb dX11_time_5 rfl (lv_at hl 2 rfl) ?_
  obtain ⟨r2, σ3, h1, hf⟩ := bnd2_some hf
  refine vI [] C hP hD hS (c_X6_hasSet h1) mv_X6_hasSet q_748 rv_X6 dX11_time_6 ⟨Nat.le_of_ble_eq_true rfl, Nat.le_of_ble_eq_true rfl⟩ ⟨Nat.zero_le _, Nat.zero_le _⟩ rfl rfl (Nat.le_of_ble_eq_true rfl) hl.1 (fun H locs hP hD hS => ?_)
  refine lv_if_eq (tgt := 24) hx hb dX11_time_9 (by decide) (fun c4 => ?_) (fun c4 => ?_)
  · replace hf := ipos c4 hf
    refine lv_iconst (v := -1) hx hb dX11_time_24 (by decide) ?_
    exact retI hQ hf dX11_time_25 hP hD hS
  · replace hf := ineg c4 hf
    refine lv_aload_n hx hb dX11_time_12 rfl (lv_at hl 0 rfl) ?_
    refine G_X11_speech C hP q_382 dX11_time_13 ?_
    refine lv_iload_n hx hb dX11_time_16 rfl (lv_at hl 1 rfl) ?_
    refine lv_iload_n hx hb dX11_time_17 rfl (lv_at hl 2 rfl) ?_
    obtain ⟨r6, σ7, h5, hf⟩ := bnd2_some hf
    refine vI [] C hP hD hS (c_X9_lasts h5) mv_X9_lasts q_769 rv_X9 dX11_time_18 ⟨Nat.le_of_ble_eq_true rfl, Nat.le_of_ble_eq_true rfl⟩ ⟨Nat.zero_le _, Nat.zero_le _⟩ rfl rfl (Nat.le_of_ble_eq_true rfl) hl.1 (fun H locs hP hD hS => ?_)
    refine lv_goto (tgt := 25) hx hb dX11_time_21 (by decide) ?_
    exact retI hQ hf dX11_time_25 hP hD hS
theorem dX11_leastSaid_0 : decode cX11_leastSaid 0 = .ok (.aload_n 0, 1) := by decide +kernel
theorem dX11_leastSaid_1 : decode cX11_leastSaid 1 = .ok (.getfield 19, 3) := by decide +kernel
theorem dX11_leastSaid_4 : decode cX11_leastSaid 4 = .ok (.iload_n 1, 1) := by decide +kernel
theorem dX11_leastSaid_5 : decode cX11_leastSaid 5 = .ok (.invokevirtual 119, 3) := by decide +kernel
theorem dX11_leastSaid_8 : decode cX11_leastSaid 8 = .ok (.ifCond .eq 10, 3) := by decide +kernel
theorem dX11_leastSaid_11 : decode cX11_leastSaid 11 = .ok (.iload_n 2, 1) := by decide +kernel
theorem dX11_leastSaid_12 : decode cX11_leastSaid 12 = .ok (.invokestatic 184, 3) := by decide +kernel
theorem dX11_leastSaid_15 : decode cX11_leastSaid 15 = .ok (.ifCond .ne 5, 3) := by decide +kernel
theorem dX11_leastSaid_18 : decode cX11_leastSaid 18 = .ok (.iconst (-1), 1) := by decide +kernel
theorem dX11_leastSaid_19 : decode cX11_leastSaid 19 = .ok (.ireturn, 1) := by decide +kernel
theorem dX11_leastSaid_20 : decode cX11_leastSaid 20 = .ok (.aload_n 0, 1) := by decide +kernel
theorem dX11_leastSaid_21 : decode cX11_leastSaid 21 = .ok (.getfield 28, 3) := by decide +kernel
theorem dX11_leastSaid_24 : decode cX11_leastSaid 24 = .ok (.iload_n 1, 1) := by decide +kernel
theorem dX11_leastSaid_25 : decode cX11_leastSaid 25 = .ok (.invokevirtual 202, 3) := by decide +kernel
theorem dX11_leastSaid_28 : decode cX11_leastSaid 28 = .ok (.aload_n 0, 1) := by decide +kernel
theorem dX11_leastSaid_29 : decode cX11_leastSaid 29 = .ok (.getfield 28, 3) := by decide +kernel
theorem dX11_leastSaid_32 : decode cX11_leastSaid 32 = .ok (.iload_n 1, 1) := by decide +kernel
theorem dX11_leastSaid_33 : decode cX11_leastSaid 33 = .ok (.iload_n 2, 1) := by decide +kernel
theorem dX11_leastSaid_34 : decode cX11_leastSaid 34 = .ok (.invokevirtual 216, 3) := by decide +kernel
theorem dX11_leastSaid_37 : decode cX11_leastSaid 37 = .ok (.ireturn, 1) := by decide +kernel
def f_X11_leastSaid (σ : St) (p1 : Int32) (p2 : Int32) : Option (Int32 × St) := bnd2 (f_X6_has σ p1) (fun r2 σ3 => if r2 = 0 then (some ((-1 : Int32), σ3)) else (bnd1 (f_X11_ofTwelve p2) (fun r6 => if r6 = 0 then (some ((-1 : Int32), σ3)) else (bnd1 (f_X9_prepare σ3 p1) (fun σ9 => bnd2 (f_X9_leastSet σ9 p1 p2) (fun r11 σ12 => some (r11, σ12)))))))
set_option maxHeartbeats 4000000 in
set_option maxRecDepth 100000 in
theorem c_X11_leastSaid {l : Launch} {g : va_G} {ts : ClassId × ClassId × ClassId} {a : Nat → Nat} {σ : St} {p1 : Int32} {p2 : Int32} {r : Int32} {σ' : St} (hf : f_X11_leastSaid σ p1 p2 = some (r, σ')) : ConI l g ts (WC ts a) yX11_leastSaid cX11_leastSaid 3 (some .int) (rk 5 130) σ [.ref (a 0), .int p1, .int p2] r σ' := by
  refine ConI_mk .int rfl rfl rfl rfl (by decide) (Nat.le_of_ble_eq_true rfl) ?_
  intro p e s m below meth c A Q ls C hQ hP hD hS hl
  have C : FX p s m _ meth c RX11 cX11_leastSaid 3 g ts A := C
  have hx := C.1
  have hb := C.2.1
  have hown := C.2.2.2.1
  have hts := C.2.2.2.2.1
  have hl : lv_has ls 3 [(0, .ref (a 0)), (1, .int p1), (2, .int p2)] := hl
  rw [f_X11_leastSaid] at hf
  refine lv_aload_n hx hb dX11_leastSaid_0 rfl (lv_at hl 0 rfl) ?_
  refine G_X11_names C hP q_381 dX11_leastSaid_1 ?_
  refine lv_iload_n hx hb dX11_leastSaid_4 rfl (lv_at hl 1 rfl) ?_
  obtain ⟨r2, σ3, h1, hf⟩ := bnd2_some hf
  refine vI [] C hP hD hS (c_X6_has h1) mv_X6_has q_465 rv_X6 dX11_leastSaid_5 ⟨Nat.le_of_ble_eq_true rfl, Nat.le_of_ble_eq_true rfl⟩ ⟨Nat.zero_le _, Nat.zero_le _⟩ rfl rfl (Nat.le_of_ble_eq_true rfl) hl.1 (fun H locs hP hD hS => ?_)
  refine lv_if_eq (tgt := 18) hx hb dX11_leastSaid_8 (by decide) (fun c4 => ?_) (fun c4 => ?_)
  · replace hf := ipos c4 hf
    refine lv_iconst (v := -1) hx hb dX11_leastSaid_18 (by decide) ?_
    exact retI hQ hf dX11_leastSaid_19 hP hD hS
  · replace hf := ineg c4 hf
    refine lv_iload_n hx hb dX11_leastSaid_11 rfl (lv_at hl 2 rfl) ?_
    obtain ⟨r6, h5, hf⟩ := bnd1_some hf
    refine tI [] C hP hD hS (c_X11_ofTwelve h5) ms_X11_ofTwelve q_719 dX11_leastSaid_12 ⟨Nat.le_of_ble_eq_true rfl, Nat.le_of_ble_eq_true rfl⟩ ⟨Nat.zero_le _, Nat.zero_le _⟩ rfl rfl (Nat.le_of_ble_eq_true rfl) hl.1 (fun H locs hP hD hS => ?_)
    refine lv_if_ne (tgt := 20) hx hb dX11_leastSaid_15 (by decide) (fun c7 => ?_) (fun c7 => ?_)
    · replace hf := ineg c7 hf
      refine lv_aload_n hx hb dX11_leastSaid_20 rfl (lv_at hl 0 rfl) ?_
      refine G_X11_speech C hP q_382 dX11_leastSaid_21 ?_
      refine lv_iload_n hx hb dX11_leastSaid_24 rfl (lv_at hl 1 rfl) ?_
      obtain ⟨σ9, h8, hf⟩ := bnd1_some hf
      refine vV [] C hP hD hS (c_X9_prepare h8) mv_X9_prepare q_753 rv_X9 dX11_leastSaid_25 ⟨Nat.le_of_ble_eq_true rfl, Nat.le_of_ble_eq_true rfl⟩ ⟨Nat.zero_le _, Nat.zero_le _⟩ rfl rfl (Nat.le_of_ble_eq_true rfl) hl.1 (fun H locs hP hD hS => ?_)
      refine lv_aload_n hx hb dX11_leastSaid_28 rfl (lv_at hl 0 rfl) ?_
      refine G_X11_speech C hP q_382 dX11_leastSaid_29 ?_
      refine lv_iload_n hx hb dX11_leastSaid_32 rfl (lv_at hl 1 rfl) ?_
      refine lv_iload_n hx hb dX11_leastSaid_33 rfl (lv_at hl 2 rfl) ?_
      obtain ⟨r11, σ12, h10, hf⟩ := bnd2_some hf
      refine vI [] C hP hD hS (c_X9_leastSet h10) mv_X9_leastSet q_777 rv_X9 dX11_leastSaid_34 ⟨Nat.le_of_ble_eq_true rfl, Nat.le_of_ble_eq_true rfl⟩ ⟨Nat.zero_le _, Nat.zero_le _⟩ rfl rfl (Nat.le_of_ble_eq_true rfl) hl.1 (fun H locs hP hD hS => ?_)
      exact retI hQ hf dX11_leastSaid_37 hP hD hS
    · replace hf := ipos c7 hf
      refine lv_iconst (v := -1) hx hb dX11_leastSaid_18 (by decide) ?_
      exact retI hQ hf dX11_leastSaid_19 hP hD hS
theorem dX11_worst_0 : decode cX11_worst 0 = .ok (.aload_n 0, 1) := by decide +kernel
theorem dX11_worst_1 : decode cX11_worst 1 = .ok (.getfield 19, 3) := by decide +kernel
theorem dX11_worst_4 : decode cX11_worst 4 = .ok (.iload_n 1, 1) := by decide +kernel
theorem dX11_worst_5 : decode cX11_worst 5 = .ok (.invokevirtual 119, 3) := by decide +kernel
theorem dX11_worst_8 : decode cX11_worst 8 = .ok (.ifCond .eq 14, 3) := by decide +kernel
theorem dX11_worst_11 : decode cX11_worst 11 = .ok (.aload_n 0, 1) := by decide +kernel
theorem dX11_worst_12 : decode cX11_worst 12 = .ok (.getfield 28, 3) := by decide +kernel
theorem dX11_worst_15 : decode cX11_worst 15 = .ok (.iload_n 1, 1) := by decide +kernel
theorem dX11_worst_16 : decode cX11_worst 16 = .ok (.invokevirtual 219, 3) := by decide +kernel
theorem dX11_worst_19 : decode cX11_worst 19 = .ok (.goto 4, 3) := by decide +kernel
theorem dX11_worst_22 : decode cX11_worst 22 = .ok (.iconst (-1), 1) := by decide +kernel
theorem dX11_worst_23 : decode cX11_worst 23 = .ok (.ireturn, 1) := by decide +kernel
def f_X11_worst (σ : St) (p1 : Int32) : Option (Int32 × St) := bnd2 (f_X6_has σ p1) (fun r2 σ3 => if r2 = 0 then (some ((-1 : Int32), σ3)) else (bnd2 (f_X9_weakest σ3 p1) (fun r6 σ7 => some (r6, σ7))))
set_option maxHeartbeats 4000000 in
set_option maxRecDepth 100000 in
theorem c_X11_worst {l : Launch} {g : va_G} {ts : ClassId × ClassId × ClassId} {a : Nat → Nat} {σ : St} {p1 : Int32} {r : Int32} {σ' : St} (hf : f_X11_worst σ p1 = some (r, σ')) : ConI l g ts (WC ts a) yX11_worst cX11_worst 2 (some .int) (rk 5 131) σ [.ref (a 0), .int p1] r σ' := by
  refine ConI_mk .int rfl rfl rfl rfl (by decide) (Nat.le_of_ble_eq_true rfl) ?_
  intro p e s m below meth c A Q ls C hQ hP hD hS hl
  have C : FX p s m _ meth c RX11 cX11_worst 2 g ts A := C
  have hx := C.1
  have hb := C.2.1
  have hown := C.2.2.2.1
  have hts := C.2.2.2.2.1
  have hl : lv_has ls 2 [(0, .ref (a 0)), (1, .int p1)] := hl
  rw [f_X11_worst] at hf
  refine lv_aload_n hx hb dX11_worst_0 rfl (lv_at hl 0 rfl) ?_
  refine G_X11_names C hP q_381 dX11_worst_1 ?_
  refine lv_iload_n hx hb dX11_worst_4 rfl (lv_at hl 1 rfl) ?_
  obtain ⟨r2, σ3, h1, hf⟩ := bnd2_some hf
  refine vI [] C hP hD hS (c_X6_has h1) mv_X6_has q_465 rv_X6 dX11_worst_5 ⟨Nat.le_of_ble_eq_true rfl, Nat.le_of_ble_eq_true rfl⟩ ⟨Nat.zero_le _, Nat.zero_le _⟩ rfl rfl (Nat.le_of_ble_eq_true rfl) hl.1 (fun H locs hP hD hS => ?_)
  refine lv_if_eq (tgt := 22) hx hb dX11_worst_8 (by decide) (fun c4 => ?_) (fun c4 => ?_)
  · replace hf := ipos c4 hf
    refine lv_iconst (v := -1) hx hb dX11_worst_22 (by decide) ?_
    exact retI hQ hf dX11_worst_23 hP hD hS
  · replace hf := ineg c4 hf
    refine lv_aload_n hx hb dX11_worst_11 rfl (lv_at hl 0 rfl) ?_
    refine G_X11_speech C hP q_382 dX11_worst_12 ?_
    refine lv_iload_n hx hb dX11_worst_15 rfl (lv_at hl 1 rfl) ?_
    obtain ⟨r6, σ7, h5, hf⟩ := bnd2_some hf
    refine vI [] C hP hD hS (c_X9_weakest h5) mv_X9_weakest q_789 rv_X9 dX11_worst_16 ⟨Nat.le_of_ble_eq_true rfl, Nat.le_of_ble_eq_true rfl⟩ ⟨Nat.zero_le _, Nat.zero_le _⟩ rfl rfl (Nat.le_of_ble_eq_true rfl) hl.1 (fun H locs hP hD hS => ?_)
    refine lv_goto (tgt := 23) hx hb dX11_worst_19 (by decide) ?_
    exact retI hQ hf dX11_worst_23 hP hD hS
theorem dX11_confused_0 : decode cX11_confused 0 = .ok (.iload_n 1, 1) := by decide +kernel
theorem dX11_confused_1 : decode cX11_confused 1 = .ok (.bipush 10, 2) := by decide +kernel
theorem dX11_confused_3 : decode cX11_confused 3 = .ok (.idiv, 1) := by decide +kernel
theorem dX11_confused_4 : decode cX11_confused 4 = .ok (.istore_n 3, 1) := by decide +kernel
theorem dX11_confused_5 : decode cX11_confused 5 = .ok (.iload_n 1, 1) := by decide +kernel
theorem dX11_confused_6 : decode cX11_confused 6 = .ok (.bipush 10, 2) := by decide +kernel
theorem dX11_confused_8 : decode cX11_confused 8 = .ok (.irem, 1) := by decide +kernel
theorem dX11_confused_9 : decode cX11_confused 9 = .ok (.istore 4, 2) := by decide +kernel
theorem dX11_confused_11 : decode cX11_confused 11 = .ok (.iload_n 1, 1) := by decide +kernel
theorem dX11_confused_12 : decode cX11_confused 12 = .ok (.ifCond .lt 29, 3) := by decide +kernel
theorem dX11_confused_15 : decode cX11_confused 15 = .ok (.iload_n 3, 1) := by decide +kernel
theorem dX11_confused_16 : decode cX11_confused 16 = .ok (.iload 4, 2) := by decide +kernel
theorem dX11_confused_18 : decode cX11_confused 18 = .ok (.if_icmp .eq 23, 3) := by decide +kernel
theorem dX11_confused_21 : decode cX11_confused 21 = .ok (.aload_n 0, 1) := by decide +kernel
theorem dX11_confused_22 : decode cX11_confused 22 = .ok (.getfield 19, 3) := by decide +kernel
theorem dX11_confused_25 : decode cX11_confused 25 = .ok (.iload_n 3, 1) := by decide +kernel
theorem dX11_confused_26 : decode cX11_confused 26 = .ok (.iload 4, 2) := by decide +kernel
theorem dX11_confused_28 : decode cX11_confused 28 = .ok (.invokevirtual 222, 3) := by decide +kernel
theorem dX11_confused_31 : decode cX11_confused 31 = .ok (.ifCond .eq 10, 3) := by decide +kernel
theorem dX11_confused_34 : decode cX11_confused 34 = .ok (.iload_n 2, 1) := by decide +kernel
theorem dX11_confused_35 : decode cX11_confused 35 = .ok (.invokestatic 150, 3) := by decide +kernel
theorem dX11_confused_38 : decode cX11_confused 38 = .ok (.ifCond .ne 7, 3) := by decide +kernel
theorem dX11_confused_41 : decode cX11_confused 41 = .ok (.ldc2_w 153, 3) := by decide +kernel
theorem dX11_confused_44 : decode cX11_confused 44 = .ok (.lreturn, 1) := by decide +kernel
theorem dX11_confused_45 : decode cX11_confused 45 = .ok (.aload_n 0, 1) := by decide +kernel
theorem dX11_confused_46 : decode cX11_confused 46 = .ok (.getfield 28, 3) := by decide +kernel
theorem dX11_confused_49 : decode cX11_confused 49 = .ok (.iload_n 3, 1) := by decide +kernel
theorem dX11_confused_50 : decode cX11_confused 50 = .ok (.iload 4, 2) := by decide +kernel
theorem dX11_confused_52 : decode cX11_confused 52 = .ok (.invokevirtual 225, 3) := by decide +kernel
theorem dX11_confused_55 : decode cX11_confused 55 = .ok (.getstatic 210, 3) := by decide +kernel
theorem dX11_confused_58 : decode cX11_confused 58 = .ok (.aload_n 0, 1) := by decide +kernel
theorem dX11_confused_59 : decode cX11_confused 59 = .ok (.getfield 19, 3) := by decide +kernel
theorem dX11_confused_62 : decode cX11_confused 62 = .ok (.getfield 123, 3) := by decide +kernel
theorem dX11_confused_65 : decode cX11_confused 65 = .ok (.iload_n 3, 1) := by decide +kernel
theorem dX11_confused_66 : decode cX11_confused 66 = .ok (.iaload, 1) := by decide +kernel
theorem dX11_confused_67 : decode cX11_confused 67 = .ok (.laload, 1) := by decide +kernel
theorem dX11_confused_68 : decode cX11_confused 68 = .ok (.iload_n 2, 1) := by decide +kernel
theorem dX11_confused_69 : decode cX11_confused 69 = .ok (.invokestatic 158, 3) := by decide +kernel
theorem dX11_confused_72 : decode cX11_confused 72 = .ok (.lreturn, 1) := by decide +kernel
def f_X11_confused (σ : St) (p1 : Int32) (p2 : Int32) : Option (Int64 × St) := bnd (p1 / (10 : Int32)) (fun v1 => bnd (p1 - p1 / (10 : Int32) * (10 : Int32)) (fun v2 => if p1 < 0 then (some ((-9223372036854775808 : Int64), σ)) else (if v1 = v2 then (some ((-9223372036854775808 : Int64), σ)) else (bnd2 (f_X6_areEven σ v1 v2) (fun r6 σ7 => if r6 = 0 then (some ((-9223372036854775808 : Int64), σ7)) else (bnd1 (f_X11_fractionPart p2) (fun r10 => if r10 = 0 then (some ((-9223372036854775808 : Int64), σ7)) else (bnd2 (f_X9_heardAs σ7 v1 v2) (fun r13 σ14 => chk (v1 < 0 ∨ 10 ≤ v1.toNatClampNeg) (chk (σ14.2.2.1 301 0 v1.toNatClampNeg < 0 ∨ 7 ≤ (σ14.2.2.1 301 0 v1.toNatClampNeg).toNatClampNeg) (bnd1 (f_X11_lowest r13 (hundA (σ14.2.2.1 301 0 v1.toNatClampNeg).toNatClampNeg) p2) (fun r19 => some (r19, σ14)))))))))))))
set_option maxHeartbeats 4000000 in
set_option maxRecDepth 100000 in
theorem c_X11_confused {l : Launch} {g : va_G} {ts : ClassId × ClassId × ClassId} {a : Nat → Nat} {σ : St} {p1 : Int32} {p2 : Int32} {r : Int64} {σ' : St} (hf : f_X11_confused σ p1 p2 = some (r, σ')) : ConL l g ts (WC ts a) yX11_confused cX11_confused 5 (some .long) (rk 5 131) σ [.ref (a 0), .int p1, .int p2] r σ' := by
  refine ConL_mk rfl rfl (by decide) (Nat.le_of_ble_eq_true rfl) ?_
  intro p e s m below meth c A Q ls C hQ hP hD hS hl
  have C : FX p s m _ meth c RX11 cX11_confused 5 g ts A := C
  have hx := C.1
  have hb := C.2.1
  have hown := C.2.2.2.1
  have hts := C.2.2.2.2.1
  have hl : lv_has ls 5 [(0, .ref (a 0)), (1, .int p1), (2, .int p2)] := hl
  rw [f_X11_confused] at hf
  refine lv_iload_n hx hb dX11_confused_0 rfl (lv_at hl 1 rfl) ?_
  refine lv_bipush (v := 10) hx hb dX11_confused_1 (by decide) ?_
  refine lv_idiv hx hb dX11_confused_3 (by decide) ?_
  refine lv_topi (fun v1 ev1 => ?_)
  replace hf := bnd_at ev1 hf
  refine lv_istore_n (lv' := [(3, .int v1), (0, .ref (a 0)), (1, .int p1), (2, .int p2)]) hx hb dX11_confused_4 rfl hl (by decide) rfl (fun ls hl => ?_)
  refine lv_iload_n hx hb dX11_confused_5 rfl (lv_at hl 2 rfl) ?_
  refine lv_bipush (v := 10) hx hb dX11_confused_6 (by decide) ?_
  refine lv_irem hx hb dX11_confused_8 (by decide) ?_
  refine lv_topi (fun v2 ev2 => ?_)
  replace hf := bnd_at ev2 hf
  refine lv_istore (lv' := [(4, .int v2), (3, .int v1), (0, .ref (a 0)), (1, .int p1), (2, .int p2)]) hx hb dX11_confused_9 hl (by decide) rfl (fun ls hl => ?_)
  refine lv_iload_n hx hb dX11_confused_11 rfl (lv_at hl 3 rfl) ?_
  refine lv_if_lt (tgt := 41) hx hb dX11_confused_12 (by decide) (fun c3 => ?_) (fun c3 => ?_)
  · replace hf := ipos c3 hf
    refine lv_ldc2 hx hb hown (hts _ q_661) dX11_confused_41 ?_
    exact retL hQ hf dX11_confused_44 hP hD hS
  · replace hf := ineg c3 hf
    refine lv_iload_n hx hb dX11_confused_15 rfl (lv_at hl 1 rfl) ?_
    refine lv_iload hx hb dX11_confused_16 (lv_at hl 0 rfl) ?_
    refine lv_icmp_eq (tgt := 41) hx hb dX11_confused_18 (by decide) (fun c4 => ?_) (fun c4 => ?_)
    · replace hf := ipos c4 hf
      refine lv_ldc2 hx hb hown (hts _ q_661) dX11_confused_41 ?_
      exact retL hQ hf dX11_confused_44 hP hD hS
    · replace hf := ineg c4 hf
      refine lv_aload_n hx hb dX11_confused_21 rfl (lv_at hl 2 rfl) ?_
      refine G_X11_names C hP q_381 dX11_confused_22 ?_
      refine lv_iload_n hx hb dX11_confused_25 rfl (lv_at hl 1 rfl) ?_
      refine lv_iload hx hb dX11_confused_26 (lv_at hl 0 rfl) ?_
      obtain ⟨r6, σ7, h5, hf⟩ := bnd2_some hf
      refine vI [] C hP hD hS (c_X6_areEven h5) mv_X6_areEven q_797 rv_X6 dX11_confused_28 ⟨Nat.le_of_ble_eq_true rfl, Nat.le_of_ble_eq_true rfl⟩ ⟨Nat.zero_le _, Nat.zero_le _⟩ rfl rfl (Nat.le_of_ble_eq_true rfl) hl.1 (fun H locs hP hD hS => ?_)
      refine lv_if_eq (tgt := 41) hx hb dX11_confused_31 (by decide) (fun c8 => ?_) (fun c8 => ?_)
      · replace hf := ipos c8 hf
        refine lv_ldc2 hx hb hown (hts _ q_661) dX11_confused_41 ?_
        exact retL hQ hf dX11_confused_44 hP hD hS
      · replace hf := ineg c8 hf
        refine lv_iload_n hx hb dX11_confused_34 rfl (lv_at hl 4 rfl) ?_
        obtain ⟨r10, h9, hf⟩ := bnd1_some hf
        refine tI [] C hP hD hS (c_X11_fractionPart h9) ms_X11_fractionPart q_658 dX11_confused_35 ⟨Nat.le_of_ble_eq_true rfl, Nat.le_of_ble_eq_true rfl⟩ ⟨Nat.zero_le _, Nat.zero_le _⟩ rfl rfl (Nat.le_of_ble_eq_true rfl) hl.1 (fun H locs hP hD hS => ?_)
        refine lv_if_ne (tgt := 45) hx hb dX11_confused_38 (by decide) (fun c11 => ?_) (fun c11 => ?_)
        · replace hf := ineg c11 hf
          refine lv_aload_n hx hb dX11_confused_45 rfl (lv_at hl 2 rfl) ?_
          refine G_X11_speech C hP q_382 dX11_confused_46 ?_
          refine lv_iload_n hx hb dX11_confused_49 rfl (lv_at hl 1 rfl) ?_
          refine lv_iload hx hb dX11_confused_50 (lv_at hl 0 rfl) ?_
          obtain ⟨r13, σ14, h12, hf⟩ := bnd2_some hf
          refine vL [] C hP hD hS (c_X9_heardAs h12) mv_X9_heardAs q_801 rv_X9 dX11_confused_52 ⟨Nat.le_of_ble_eq_true rfl, Nat.le_of_ble_eq_true rfl⟩ ⟨Nat.zero_le _, Nat.zero_le _⟩ rfl rfl (Nat.le_of_ble_eq_true rfl) hl.1 (fun H locs hP hD hS => ?_)
          obtain ⟨t15, hZt15, hTt15⟩ := C.2.2.2.2.2.2.2.2.1
          refine va_gets hx hb hZt15 hS hown (hts _ q_763) (fun _ h => h) dX11_confused_55 ?_
          refine lv_aload_n hx hb dX11_confused_58 rfl (lv_at hl 2 rfl) ?_
          refine G_X11_names C hP q_381 dX11_confused_59 ?_
          refine G_X6_sizes C hP q_159 dX11_confused_62 ?_
          refine lv_iload_n hx hb dX11_confused_65 rfl (lv_at hl 1 rfl) ?_
          obtain ⟨h16, hf⟩ := chk_some hf
          refine AL_X6_sizes C hP h16 dX11_confused_66 ?_
          obtain ⟨h17, hf⟩ := chk_some hf
          refine va_tl hx hb hTt15 hS h17 rfl dX11_confused_67 ?_
          refine lv_iload_n hx hb dX11_confused_68 rfl (lv_at hl 4 rfl) ?_
          obtain ⟨r19, h18, hf⟩ := bnd1_some hf
          refine tL [] C hP hD hS (c_X11_lowest h18) ms_X11_lowest q_679 dX11_confused_69 ⟨Nat.le_of_ble_eq_true rfl, Nat.le_of_ble_eq_true rfl⟩ ⟨Nat.zero_le _, Nat.zero_le _⟩ rfl rfl (Nat.le_of_ble_eq_true rfl) hl.1 (fun H locs hP hD hS => ?_)
          exact retL hQ hf dX11_confused_72 hP hD hS
        · replace hf := ipos c11 hf
          refine lv_ldc2 hx hb hown (hts _ q_661) dX11_confused_41 ?_
          exact retL hQ hf dX11_confused_44 hP hD hS
theorem dX11_nearest_0 : decode cX11_nearest 0 = .ok (.aload_n 0, 1) := by decide +kernel
theorem dX11_nearest_1 : decode cX11_nearest 1 = .ok (.getfield 19, 3) := by decide +kernel
theorem dX11_nearest_4 : decode cX11_nearest 4 = .ok (.iload_n 1, 1) := by decide +kernel
theorem dX11_nearest_5 : decode cX11_nearest 5 = .ok (.invokevirtual 119, 3) := by decide +kernel
theorem dX11_nearest_8 : decode cX11_nearest 8 = .ok (.ifCond .eq 14, 3) := by decide +kernel
theorem dX11_nearest_11 : decode cX11_nearest 11 = .ok (.aload_n 0, 1) := by decide +kernel
theorem dX11_nearest_12 : decode cX11_nearest 12 = .ok (.getfield 28, 3) := by decide +kernel
theorem dX11_nearest_15 : decode cX11_nearest 15 = .ok (.iload_n 1, 1) := by decide +kernel
theorem dX11_nearest_16 : decode cX11_nearest 16 = .ok (.invokevirtual 228, 3) := by decide +kernel
theorem dX11_nearest_19 : decode cX11_nearest 19 = .ok (.goto 4, 3) := by decide +kernel
theorem dX11_nearest_22 : decode cX11_nearest 22 = .ok (.iconst (-1), 1) := by decide +kernel
theorem dX11_nearest_23 : decode cX11_nearest 23 = .ok (.ireturn, 1) := by decide +kernel
def f_X11_nearest (σ : St) (p1 : Int32) : Option (Int32 × St) := bnd2 (f_X6_has σ p1) (fun r2 σ3 => if r2 = 0 then (some ((-1 : Int32), σ3)) else (bnd2 (f_X9_closestTo σ3 p1) (fun r6 σ7 => some (r6, σ7))))
set_option maxHeartbeats 4000000 in
set_option maxRecDepth 100000 in
theorem c_X11_nearest {l : Launch} {g : va_G} {ts : ClassId × ClassId × ClassId} {a : Nat → Nat} {σ : St} {p1 : Int32} {r : Int32} {σ' : St} (hf : f_X11_nearest σ p1 = some (r, σ')) : ConI l g ts (WC ts a) yX11_nearest cX11_nearest 2 (some .int) (rk 6 158) σ [.ref (a 0), .int p1] r σ' := by
  refine ConI_mk .int rfl rfl rfl rfl (by decide) (Nat.le_of_ble_eq_true rfl) ?_
  intro p e s m below meth c A Q ls C hQ hP hD hS hl
  have C : FX p s m _ meth c RX11 cX11_nearest 2 g ts A := C
  have hx := C.1
  have hb := C.2.1
  have hown := C.2.2.2.1
  have hts := C.2.2.2.2.1
  have hl : lv_has ls 2 [(0, .ref (a 0)), (1, .int p1)] := hl
  rw [f_X11_nearest] at hf
  refine lv_aload_n hx hb dX11_nearest_0 rfl (lv_at hl 0 rfl) ?_
  refine G_X11_names C hP q_381 dX11_nearest_1 ?_
  refine lv_iload_n hx hb dX11_nearest_4 rfl (lv_at hl 1 rfl) ?_
  obtain ⟨r2, σ3, h1, hf⟩ := bnd2_some hf
  refine vI [] C hP hD hS (c_X6_has h1) mv_X6_has q_465 rv_X6 dX11_nearest_5 ⟨Nat.le_of_ble_eq_true rfl, Nat.le_of_ble_eq_true rfl⟩ ⟨Nat.zero_le _, Nat.zero_le _⟩ rfl rfl (Nat.le_of_ble_eq_true rfl) hl.1 (fun H locs hP hD hS => ?_)
  refine lv_if_eq (tgt := 22) hx hb dX11_nearest_8 (by decide) (fun c4 => ?_) (fun c4 => ?_)
  · replace hf := ipos c4 hf
    refine lv_iconst (v := -1) hx hb dX11_nearest_22 (by decide) ?_
    exact retI hQ hf dX11_nearest_23 hP hD hS
  · replace hf := ineg c4 hf
    refine lv_aload_n hx hb dX11_nearest_11 rfl (lv_at hl 0 rfl) ?_
    refine G_X11_speech C hP q_382 dX11_nearest_12 ?_
    refine lv_iload_n hx hb dX11_nearest_15 rfl (lv_at hl 1 rfl) ?_
    obtain ⟨r6, σ7, h5, hf⟩ := bnd2_some hf
    refine vI [] C hP hD hS (c_X9_closestTo h5) mv_X9_closestTo q_809 rv_X9 dX11_nearest_16 ⟨Nat.le_of_ble_eq_true rfl, Nat.le_of_ble_eq_true rfl⟩ ⟨Nat.zero_le _, Nat.zero_le _⟩ rfl rfl (Nat.le_of_ble_eq_true rfl) hl.1 (fun H locs hP hD hS => ?_)
    refine lv_goto (tgt := 23) hx hb dX11_nearest_19 (by decide) ?_
    exact retI hQ hf dX11_nearest_23 hP hD hS
theorem dX11_pairs_0 : decode cX11_pairs 0 = .ok (.aload_n 0, 1) := by decide +kernel
theorem dX11_pairs_1 : decode cX11_pairs 1 = .ok (.getfield 28, 3) := by decide +kernel
theorem dX11_pairs_4 : decode cX11_pairs 4 = .ok (.invokevirtual 231, 3) := by decide +kernel
theorem dX11_pairs_7 : decode cX11_pairs 7 = .ok (.ireturn, 1) := by decide +kernel
def f_X11_pairs (σ : St) : Option (Int32 × St) := bnd2 (f_X9_closestPair σ) (fun r2 σ3 => some (r2, σ3))
set_option maxHeartbeats 4000000 in
set_option maxRecDepth 100000 in
theorem c_X11_pairs {l : Launch} {g : va_G} {ts : ClassId × ClassId × ClassId} {a : Nat → Nat} {σ : St} {r : Int32} {σ' : St} (hf : f_X11_pairs σ = some (r, σ')) : ConI l g ts (WC ts a) yX11_pairs cX11_pairs 1 (some .int) (rk 6 158) σ [.ref (a 0)] r σ' := by
  refine ConI_mk .int rfl rfl rfl rfl (by decide) (Nat.le_of_ble_eq_true rfl) ?_
  intro p e s m below meth c A Q ls C hQ hP hD hS hl
  have C : FX p s m _ meth c RX11 cX11_pairs 1 g ts A := C
  have hx := C.1
  have hb := C.2.1
  have hown := C.2.2.2.1
  have hts := C.2.2.2.2.1
  have hl : lv_has ls 1 [(0, .ref (a 0))] := hl
  rw [f_X11_pairs] at hf
  refine lv_aload_n hx hb dX11_pairs_0 rfl (lv_at hl 0 rfl) ?_
  refine G_X11_speech C hP q_382 dX11_pairs_1 ?_
  obtain ⟨r2, σ3, h1, hf⟩ := bnd2_some hf
  refine vI [] C hP hD hS (c_X9_closestPair h1) mv_X9_closestPair q_820 rv_X9 dX11_pairs_4 ⟨Nat.le_of_ble_eq_true rfl, Nat.le_of_ble_eq_true rfl⟩ ⟨Nat.zero_le _, Nat.zero_le _⟩ rfl rfl (Nat.le_of_ble_eq_true rfl) hl.1 (fun H locs hP hD hS => ?_)
  exact retI hQ hf dX11_pairs_7 hP hD hS
theorem dX11_sums_0 : decode cX11_sums 0 = .ok (.iload_n 2, 1) := by decide +kernel
theorem dX11_sums_1 : decode cX11_sums 1 = .ok (.ifCond .lt 24, 3) := by decide +kernel
theorem dX11_sums_4 : decode cX11_sums 4 = .ok (.iload_n 2, 1) := by decide +kernel
theorem dX11_sums_5 : decode cX11_sums 5 = .ok (.bipush 44, 2) := by decide +kernel
theorem dX11_sums_7 : decode cX11_sums 7 = .ok (.if_icmp .gt 18, 3) := by decide +kernel
theorem dX11_sums_10 : decode cX11_sums 10 = .ok (.iload_n 3, 1) := by decide +kernel
theorem dX11_sums_11 : decode cX11_sums 11 = .ok (.invokestatic 150, 3) := by decide +kernel
theorem dX11_sums_14 : decode cX11_sums 14 = .ok (.ifCond .eq 11, 3) := by decide +kernel
theorem dX11_sums_17 : decode cX11_sums 17 = .ok (.aload_n 0, 1) := by decide +kernel
theorem dX11_sums_18 : decode cX11_sums 18 = .ok (.iload_n 1, 1) := by decide +kernel
theorem dX11_sums_19 : decode cX11_sums 19 = .ok (.invokevirtual 86, 3) := by decide +kernel
theorem dX11_sums_22 : decode cX11_sums 22 = .ok (.ifCond .eq 7, 3) := by decide +kernel
theorem dX11_sums_25 : decode cX11_sums 25 = .ok (.ldc2_w 153, 3) := by decide +kernel
theorem dX11_sums_28 : decode cX11_sums 28 = .ok (.lreturn, 1) := by decide +kernel
theorem dX11_sums_29 : decode cX11_sums 29 = .ok (.aload_n 0, 1) := by decide +kernel
theorem dX11_sums_30 : decode cX11_sums 30 = .ok (.getfield 44, 3) := by decide +kernel
theorem dX11_sums_33 : decode cX11_sums 33 = .ok (.aload_n 0, 1) := by decide +kernel
theorem dX11_sums_34 : decode cX11_sums 34 = .ok (.getfield 81, 3) := by decide +kernel
theorem dX11_sums_37 : decode cX11_sums 37 = .ok (.iload_n 1, 1) := by decide +kernel
theorem dX11_sums_38 : decode cX11_sums 38 = .ok (.aaload, 1) := by decide +kernel
theorem dX11_sums_39 : decode cX11_sums 39 = .ok (.invokevirtual 234, 3) := by decide +kernel
theorem dX11_sums_42 : decode cX11_sums 42 = .ok (.aload_n 0, 1) := by decide +kernel
theorem dX11_sums_43 : decode cX11_sums 43 = .ok (.getfield 44, 3) := by decide +kernel
theorem dX11_sums_46 : decode cX11_sums 46 = .ok (.getfield 237, 3) := by decide +kernel
theorem dX11_sums_49 : decode cX11_sums 49 = .ok (.lconst 0, 1) := by decide +kernel
theorem dX11_sums_50 : decode cX11_sums 50 = .ok (.lcmp, 1) := by decide +kernel
theorem dX11_sums_51 : decode cX11_sums 51 = .ok (.ifCond .ne 9, 3) := by decide +kernel
theorem dX11_sums_54 : decode cX11_sums 54 = .ok (.ldc2_w 174, 3) := by decide +kernel
theorem dX11_sums_57 : decode cX11_sums 57 = .ok (.goto 23, 3) := by decide +kernel
theorem dX11_sums_60 : decode cX11_sums 60 = .ok (.aload_n 0, 1) := by decide +kernel
theorem dX11_sums_61 : decode cX11_sums 61 = .ok (.getfield 44, 3) := by decide +kernel
theorem dX11_sums_64 : decode cX11_sums 64 = .ok (.getfield 238, 3) := by decide +kernel
theorem dX11_sums_67 : decode cX11_sums 67 = .ok (.iload_n 2, 1) := by decide +kernel
theorem dX11_sums_68 : decode cX11_sums 68 = .ok (.laload, 1) := by decide +kernel
theorem dX11_sums_69 : decode cX11_sums 69 = .ok (.aload_n 0, 1) := by decide +kernel
theorem dX11_sums_70 : decode cX11_sums 70 = .ok (.getfield 44, 3) := by decide +kernel
theorem dX11_sums_73 : decode cX11_sums 73 = .ok (.getfield 237, 3) := by decide +kernel
theorem dX11_sums_76 : decode cX11_sums 76 = .ok (.iload_n 3, 1) := by decide +kernel
theorem dX11_sums_77 : decode cX11_sums 77 = .ok (.invokestatic 158, 3) := by decide +kernel
theorem dX11_sums_80 : decode cX11_sums 80 = .ok (.lreturn, 1) := by decide +kernel
def f_X11_sums (σ : St) (p1 : Int32) (p2 : Int32) (p3 : Int32) : Option (Int64 × St) := if p2 < 0 then (some ((-9223372036854775808 : Int64), σ)) else (if (44 : Int32) < p2 then (some ((-9223372036854775808 : Int64), σ)) else (bnd1 (f_X11_fractionPart p3) (fun r4 => if r4 = 0 then (some ((-9223372036854775808 : Int64), σ)) else (bnd2 (f_X11_refusedBytes σ p1) (fun r7 σ8 => if r7 = 0 then (chk (p1 < 0 ∨ 6 ≤ p1.toNatClampNeg) (bnd1 (f_X2_weigh σ8 ((p1.toNatClampNeg))) (fun σ12 => if σ12.2.1 103 0 = (0 : Int64) then (some ((-2 : Int64), σ12)) else (chk (2 ≤ σ12.2.2.2.2 101) (chk (p2 < 0 ∨ 45 ≤ p2.toNatClampNeg) (bnd1 (f_X11_lowest (σ12.2.2.2.1 101 (σ12.2.2.2.2 101) p2.toNatClampNeg) (σ12.2.1 103 0) p3) (fun r17 => some (r17, σ12)))))))) else (some ((-9223372036854775808 : Int64), σ8)))))))
set_option maxHeartbeats 4000000 in
set_option maxRecDepth 100000 in
theorem c_X11_sums {l : Launch} {g : va_G} {ts : ClassId × ClassId × ClassId} {a : Nat → Nat} {σ : St} {p1 : Int32} {p2 : Int32} {p3 : Int32} {r : Int64} {σ' : St} (hf : f_X11_sums σ p1 p2 p3 = some (r, σ')) : ConL l g ts (WC ts a) yX11_sums cX11_sums 4 (some .long) (rk 6 153) σ [.ref (a 0), .int p1, .int p2, .int p3] r σ' := by
  refine ConL_mk rfl rfl (by decide) (Nat.le_of_ble_eq_true rfl) ?_
  intro p e s m below meth c A Q ls C hQ hP hD hS hl
  have C : FX p s m _ meth c RX11 cX11_sums 4 g ts A := C
  have hx := C.1
  have hb := C.2.1
  have hown := C.2.2.2.1
  have hts := C.2.2.2.2.1
  have hl : lv_has ls 4 [(0, .ref (a 0)), (1, .int p1), (2, .int p2), (3, .int p3)] := hl
  rw [f_X11_sums] at hf
  refine lv_iload_n hx hb dX11_sums_0 rfl (lv_at hl 2 rfl) ?_
  refine lv_if_lt (tgt := 25) hx hb dX11_sums_1 (by decide) (fun c1 => ?_) (fun c1 => ?_)
  · replace hf := ipos c1 hf
    refine lv_ldc2 hx hb hown (hts _ q_661) dX11_sums_25 ?_
    exact retL hQ hf dX11_sums_28 hP hD hS
  · replace hf := ineg c1 hf
    refine lv_iload_n hx hb dX11_sums_4 rfl (lv_at hl 2 rfl) ?_
    refine lv_bipush (v := 44) hx hb dX11_sums_5 (by decide) ?_
    refine lv_icmp_gt (tgt := 25) hx hb dX11_sums_7 (by decide) (fun c2 => ?_) (fun c2 => ?_)
    · replace hf := ipos c2 hf
      refine lv_ldc2 hx hb hown (hts _ q_661) dX11_sums_25 ?_
      exact retL hQ hf dX11_sums_28 hP hD hS
    · replace hf := ineg c2 hf
      refine lv_iload_n hx hb dX11_sums_10 rfl (lv_at hl 3 rfl) ?_
      obtain ⟨r4, h3, hf⟩ := bnd1_some hf
      refine tI [] C hP hD hS (c_X11_fractionPart h3) ms_X11_fractionPart q_658 dX11_sums_11 ⟨Nat.le_of_ble_eq_true rfl, Nat.le_of_ble_eq_true rfl⟩ ⟨Nat.zero_le _, Nat.zero_le _⟩ rfl rfl (Nat.le_of_ble_eq_true rfl) hl.1 (fun H locs hP hD hS => ?_)
      refine lv_if_eq (tgt := 25) hx hb dX11_sums_14 (by decide) (fun c5 => ?_) (fun c5 => ?_)
      · replace hf := ipos c5 hf
        refine lv_ldc2 hx hb hown (hts _ q_661) dX11_sums_25 ?_
        exact retL hQ hf dX11_sums_28 hP hD hS
      · replace hf := ineg c5 hf
        refine lv_aload_n hx hb dX11_sums_17 rfl (lv_at hl 0 rfl) ?_
        refine lv_iload_n hx hb dX11_sums_18 rfl (lv_at hl 1 rfl) ?_
        obtain ⟨r7, σ8, h6, hf⟩ := bnd2_some hf
        refine vI [] C hP hD hS (c_X11_refusedBytes h6) mv_X11_refusedBytes q_421 rv_X11 dX11_sums_19 ⟨Nat.le_of_ble_eq_true rfl, Nat.le_of_ble_eq_true rfl⟩ ⟨Nat.zero_le _, Nat.zero_le _⟩ rfl rfl (Nat.le_of_ble_eq_true rfl) hl.1 (fun H locs hP hD hS => ?_)
        refine lv_if_eq (tgt := 29) hx hb dX11_sums_22 (by decide) (fun c9 => ?_) (fun c9 => ?_)
        · replace hf := ipos c9 hf
          refine lv_aload_n hx hb dX11_sums_29 rfl (lv_at hl 0 rfl) ?_
          refine G_X11_figures C hP q_384 dX11_sums_30 ?_
          refine lv_aload_n hx hb dX11_sums_33 rfl (lv_at hl 0 rfl) ?_
          refine G_X11_shelves C hP q_390 dX11_sums_34 ?_
          refine lv_iload_n hx hb dX11_sums_37 rfl (lv_at hl 1 rfl) ?_
          obtain ⟨h10, hf⟩ := chk_some hf
          refine AL_shelves C hP h10 dX11_sums_38 ?_
          obtain ⟨σ12, h11, hf⟩ := bnd1_some hf
          refine vV [] C hP hD hS (c_X2_weigh (Nat.not_le.mp fun q => h10 (Or.inr q)) h11) mv_X2_weigh q_828 rv_X2 dX11_sums_39 ⟨Nat.le_of_ble_eq_true rfl, Nat.le_of_ble_eq_true rfl⟩ ⟨Nat.zero_le _, Nat.zero_le _⟩ rfl rfl (Nat.le_of_ble_eq_true rfl) hl.1 (fun H locs hP hD hS => ?_)
          refine lv_aload_n hx hb dX11_sums_42 rfl (lv_at hl 0 rfl) ?_
          refine G_X11_figures C hP q_384 dX11_sums_43 ?_
          refine G_X2_all C hP q_229 dX11_sums_46 ?_
          refine lv_lconst (v := 0) hx hb dX11_sums_49 (by decide) ?_
          refine lb_ne (tgt := 60) hx hb dX11_sums_50 dX11_sums_51 (by decide) (fun c13 => ?_) (fun c13 => ?_)
          · replace hf := ineg c13 hf
            refine lv_aload_n hx hb dX11_sums_60 rfl (lv_at hl 0 rfl) ?_
            refine G_X11_figures C hP q_384 dX11_sums_61 ?_
            refine G_X2_ways C hP q_226 dX11_sums_64 ?_
            obtain ⟨h14, hf⟩ := chk_some hf
            refine lv_iload_n hx hb dX11_sums_67 rfl (lv_at hl 2 rfl) ?_
            obtain ⟨h15, hf⟩ := chk_some hf
            refine AL_X2_ways (Nat.not_le.mp h14) C hP h15 dX11_sums_68 ?_
            refine lv_aload_n hx hb dX11_sums_69 rfl (lv_at hl 0 rfl) ?_
            refine G_X11_figures C hP q_384 dX11_sums_70 ?_
            refine G_X2_all C hP q_229 dX11_sums_73 ?_
            refine lv_iload_n hx hb dX11_sums_76 rfl (lv_at hl 3 rfl) ?_
            obtain ⟨r17, h16, hf⟩ := bnd1_some hf
            refine tL [] C hP hD hS (c_X11_lowest h16) ms_X11_lowest q_679 dX11_sums_77 ⟨Nat.le_of_ble_eq_true rfl, Nat.le_of_ble_eq_true rfl⟩ ⟨Nat.zero_le _, Nat.zero_le _⟩ rfl rfl (Nat.le_of_ble_eq_true rfl) hl.1 (fun H locs hP hD hS => ?_)
            exact retL hQ hf dX11_sums_80 hP hD hS
          · replace hf := ipos c13 hf
            refine lv_ldc2 hx hb hown (hts _ q_706) dX11_sums_54 ?_
            refine lv_goto (tgt := 80) hx hb dX11_sums_57 (by decide) ?_
            exact retL hQ hf dX11_sums_80 hP hD hS
        · replace hf := ineg c9 hf
          refine lv_ldc2 hx hb hown (hts _ q_661) dX11_sums_25 ?_
          exact retL hQ hf dX11_sums_28 hP hD hS
theorem dX11_stop_0 : decode cX11_stop 0 = .ok (.aload_n 0, 1) := by decide +kernel
theorem dX11_stop_1 : decode cX11_stop 1 = .ok (.getfield 19, 3) := by decide +kernel
theorem dX11_stop_4 : decode cX11_stop 4 = .ok (.iload_n 1, 1) := by decide +kernel
theorem dX11_stop_5 : decode cX11_stop 5 = .ok (.invokevirtual 119, 3) := by decide +kernel
theorem dX11_stop_8 : decode cX11_stop 8 = .ok (.ifCond .eq 25, 3) := by decide +kernel
theorem dX11_stop_11 : decode cX11_stop 11 = .ok (.iload_n 2, 1) := by decide +kernel
theorem dX11_stop_12 : decode cX11_stop 12 = .ok (.ifCond .lt 21, 3) := by decide +kernel
theorem dX11_stop_15 : decode cX11_stop 15 = .ok (.iload_n 2, 1) := by decide +kernel
theorem dX11_stop_16 : decode cX11_stop 16 = .ok (.bipush 99, 2) := by decide +kernel
theorem dX11_stop_18 : decode cX11_stop 18 = .ok (.if_icmp .gt 15, 3) := by decide +kernel
theorem dX11_stop_21 : decode cX11_stop 21 = .ok (.aload_n 0, 1) := by decide +kernel
theorem dX11_stop_22 : decode cX11_stop 22 = .ok (.getfield 28, 3) := by decide +kernel
theorem dX11_stop_25 : decode cX11_stop 25 = .ok (.iload_n 1, 1) := by decide +kernel
theorem dX11_stop_26 : decode cX11_stop 26 = .ok (.iload_n 2, 1) := by decide +kernel
theorem dX11_stop_27 : decode cX11_stop 27 = .ok (.invokevirtual 241, 3) := by decide +kernel
theorem dX11_stop_30 : decode cX11_stop 30 = .ok (.goto 4, 3) := by decide +kernel
theorem dX11_stop_33 : decode cX11_stop 33 = .ok (.iconst (-1), 1) := by decide +kernel
theorem dX11_stop_34 : decode cX11_stop 34 = .ok (.ireturn, 1) := by decide +kernel
def f_X11_stop (σ : St) (p1 : Int32) (p2 : Int32) : Option (Int32 × St) := bnd2 (f_X6_has σ p1) (fun r2 σ3 => if r2 = 0 then (some ((-1 : Int32), σ3)) else (if p2 < 0 then (some ((-1 : Int32), σ3)) else (if (99 : Int32) < p2 then (some ((-1 : Int32), σ3)) else (bnd2 (f_X9_stopsAt σ3 p1 p2) (fun r8 σ9 => some (r8, σ9))))))
set_option maxHeartbeats 4000000 in
set_option maxRecDepth 100000 in
theorem c_X11_stop {l : Launch} {g : va_G} {ts : ClassId × ClassId × ClassId} {a : Nat → Nat} {σ : St} {p1 : Int32} {p2 : Int32} {r : Int32} {σ' : St} (hf : f_X11_stop σ p1 p2 = some (r, σ')) : ConI l g ts (WC ts a) yX11_stop cX11_stop 3 (some .int) (rk 5 133) σ [.ref (a 0), .int p1, .int p2] r σ' := by
  refine ConI_mk .int rfl rfl rfl rfl (by decide) (Nat.le_of_ble_eq_true rfl) ?_
  intro p e s m below meth c A Q ls C hQ hP hD hS hl
  have C : FX p s m _ meth c RX11 cX11_stop 3 g ts A := C
  have hx := C.1
  have hb := C.2.1
  have hown := C.2.2.2.1
  have hts := C.2.2.2.2.1
  have hl : lv_has ls 3 [(0, .ref (a 0)), (1, .int p1), (2, .int p2)] := hl
  rw [f_X11_stop] at hf
  refine lv_aload_n hx hb dX11_stop_0 rfl (lv_at hl 0 rfl) ?_
  refine G_X11_names C hP q_381 dX11_stop_1 ?_
  refine lv_iload_n hx hb dX11_stop_4 rfl (lv_at hl 1 rfl) ?_
  obtain ⟨r2, σ3, h1, hf⟩ := bnd2_some hf
  refine vI [] C hP hD hS (c_X6_has h1) mv_X6_has q_465 rv_X6 dX11_stop_5 ⟨Nat.le_of_ble_eq_true rfl, Nat.le_of_ble_eq_true rfl⟩ ⟨Nat.zero_le _, Nat.zero_le _⟩ rfl rfl (Nat.le_of_ble_eq_true rfl) hl.1 (fun H locs hP hD hS => ?_)
  refine lv_if_eq (tgt := 33) hx hb dX11_stop_8 (by decide) (fun c4 => ?_) (fun c4 => ?_)
  · replace hf := ipos c4 hf
    refine lv_iconst (v := -1) hx hb dX11_stop_33 (by decide) ?_
    exact retI hQ hf dX11_stop_34 hP hD hS
  · replace hf := ineg c4 hf
    refine lv_iload_n hx hb dX11_stop_11 rfl (lv_at hl 2 rfl) ?_
    refine lv_if_lt (tgt := 33) hx hb dX11_stop_12 (by decide) (fun c5 => ?_) (fun c5 => ?_)
    · replace hf := ipos c5 hf
      refine lv_iconst (v := -1) hx hb dX11_stop_33 (by decide) ?_
      exact retI hQ hf dX11_stop_34 hP hD hS
    · replace hf := ineg c5 hf
      refine lv_iload_n hx hb dX11_stop_15 rfl (lv_at hl 2 rfl) ?_
      refine lv_bipush (v := 99) hx hb dX11_stop_16 (by decide) ?_
      refine lv_icmp_gt (tgt := 33) hx hb dX11_stop_18 (by decide) (fun c6 => ?_) (fun c6 => ?_)
      · replace hf := ipos c6 hf
        refine lv_iconst (v := -1) hx hb dX11_stop_33 (by decide) ?_
        exact retI hQ hf dX11_stop_34 hP hD hS
      · replace hf := ineg c6 hf
        refine lv_aload_n hx hb dX11_stop_21 rfl (lv_at hl 0 rfl) ?_
        refine G_X11_speech C hP q_382 dX11_stop_22 ?_
        refine lv_iload_n hx hb dX11_stop_25 rfl (lv_at hl 1 rfl) ?_
        refine lv_iload_n hx hb dX11_stop_26 rfl (lv_at hl 2 rfl) ?_
        obtain ⟨r8, σ9, h7, hf⟩ := bnd2_some hf
        refine vI [] C hP hD hS (c_X9_stopsAt h7) mv_X9_stopsAt q_845 rv_X9 dX11_stop_27 ⟨Nat.le_of_ble_eq_true rfl, Nat.le_of_ble_eq_true rfl⟩ ⟨Nat.zero_le _, Nat.zero_le _⟩ rfl rfl (Nat.le_of_ble_eq_true rfl) hl.1 (fun H locs hP hD hS => ?_)
        refine lv_goto (tgt := 34) hx hb dX11_stop_30 (by decide) ?_
        exact retI hQ hf dX11_stop_34 hP hD hS
