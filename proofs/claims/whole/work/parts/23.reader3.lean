theorem mv_X7_readLine : MV yX7_readLine cX7_readLine 2 (some .boolean) 0 := ⟨q_530, q_4, q_66, q_531, by decide +kernel, by decide +kernel, by decide +kernel⟩
theorem mv_X7_read : MV yX7_read cX7_read 4 (some .int) 1 := ⟨q_521, q_522, q_66, q_523, by decide +kernel, by decide +kernel, by decide +kernel⟩
theorem dX7_readLine_0 : decode cX7_readLine 0 = .ok (.aload_n 0, 1) := by decide +kernel
theorem dX7_readLine_1 : decode cX7_readLine 1 = .ok (.iconst 0, 1) := by decide +kernel
theorem dX7_readLine_2 : decode cX7_readLine 2 = .ok (.iconst 0, 1) := by decide +kernel
theorem dX7_readLine_3 : decode cX7_readLine 3 = .ok (.invokevirtual 37, 3) := by decide +kernel
theorem dX7_readLine_6 : decode cX7_readLine 6 = .ok (.istore_n 1, 1) := by decide +kernel
theorem dX7_readLine_7 : decode cX7_readLine 7 = .ok (.iload_n 1, 1) := by decide +kernel
theorem dX7_readLine_8 : decode cX7_readLine 8 = .ok (.ifCond .eq 38, 3) := by decide +kernel
theorem dX7_readLine_11 : decode cX7_readLine 11 = .ok (.aload_n 0, 1) := by decide +kernel
theorem dX7_readLine_12 : decode cX7_readLine 12 = .ok (.bipush 63, 2) := by decide +kernel
theorem dX7_readLine_14 : decode cX7_readLine 14 = .ok (.invokevirtual 33, 3) := by decide +kernel
theorem dX7_readLine_17 : decode cX7_readLine 17 = .ok (.ifCond .eq 29, 3) := by decide +kernel
theorem dX7_readLine_20 : decode cX7_readLine 20 = .ok (.aload_n 0, 1) := by decide +kernel
theorem dX7_readLine_21 : decode cX7_readLine 21 = .ok (.dup, 1) := by decide +kernel
theorem dX7_readLine_22 : decode cX7_readLine 22 = .ok (.getfield 26, 3) := by decide +kernel
theorem dX7_readLine_25 : decode cX7_readLine 25 = .ok (.iconst 1, 1) := by decide +kernel
theorem dX7_readLine_26 : decode cX7_readLine 26 = .ok (.iadd, 1) := by decide +kernel
theorem dX7_readLine_27 : decode cX7_readLine 27 = .ok (.putfield 26, 3) := by decide +kernel
theorem dX7_readLine_30 : decode cX7_readLine 30 = .ok (.aload_n 0, 1) := by decide +kernel
theorem dX7_readLine_31 : decode cX7_readLine 31 = .ok (.getfield 17, 3) := by decide +kernel
theorem dX7_readLine_34 : decode cX7_readLine 34 = .ok (.bipush (-63), 2) := by decide +kernel
theorem dX7_readLine_36 : decode cX7_readLine 36 = .ok (.invokevirtual 41, 3) := by decide +kernel
theorem dX7_readLine_39 : decode cX7_readLine 39 = .ok (.aload_n 0, 1) := by decide +kernel
theorem dX7_readLine_40 : decode cX7_readLine 40 = .ok (.iconst 0, 1) := by decide +kernel
theorem dX7_readLine_41 : decode cX7_readLine 41 = .ok (.iconst 0, 1) := by decide +kernel
theorem dX7_readLine_42 : decode cX7_readLine 42 = .ok (.invokevirtual 37, 3) := by decide +kernel
theorem dX7_readLine_45 : decode cX7_readLine 45 = .ok (.istore_n 1, 1) := by decide +kernel
theorem dX7_readLine_46 : decode cX7_readLine 46 = .ok (.aload_n 0, 1) := by decide +kernel
theorem dX7_readLine_47 : decode cX7_readLine 47 = .ok (.getfield 17, 3) := by decide +kernel
theorem dX7_readLine_50 : decode cX7_readLine 50 = .ok (.bipush (-59), 2) := by decide +kernel
theorem dX7_readLine_52 : decode cX7_readLine 52 = .ok (.invokevirtual 41, 3) := by decide +kernel
theorem dX7_readLine_55 : decode cX7_readLine 55 = .ok (.iload_n 1, 1) := by decide +kernel
theorem dX7_readLine_56 : decode cX7_readLine 56 = .ok (.ireturn, 1) := by decide +kernel
def f_X7_readLine_b46 (σ : St) (x1 : Int32) : Option (Int32 × St) := derefL σ (σ.2.2.2.2 353) (fun j15 => bnd1 (f_X4_emit σ j15 (-59 : Int32)) (fun σ17 => some (x1, σ17)))
def f_X7_readLine0 (σ : St) : Option (Int32 × St) := bnd2 (f_X7_readRank σ (0 : Int32) (0 : Int32)) (fun r2 σ3 => if r2 = 0 then (f_X7_readLine_b46 σ3 r2) else (bnd2 (f_X7_isAt σ3 (63 : Int32)) (fun r6 σ7 => if r6 = 0 then (f_X7_readLine_b46 σ7 r2) else (derefL (sI σ7 352 0 ((σ7.1 352 0) + (1 : Int32))) ((sI σ7 352 0 ((σ7.1 352 0) + (1 : Int32))).2.2.2.2 353) (fun j9 => bnd1 (f_X4_emit (sI σ7 352 0 ((σ7.1 352 0) + (1 : Int32))) j9 (-63 : Int32)) (fun σ11 => bnd2 (f_X7_readRank σ11 (0 : Int32) (0 : Int32)) (fun r13 σ14 => f_X7_readLine_b46 σ14 r13)))))))
def f_X7_readLine (σ : St) : Option (Int32 × St) := chkB (f_X7_readLine0 σ)
set_option maxHeartbeats 4000000 in
set_option maxRecDepth 100000 in
theorem w_X7_readLine_b46 {p : Program} {l : Launch} {e : Env} {s : State} {m : MethodId} {args : Array Value} {below : List Frame} {meth : Method} {c : Code} {g : va_G} {ts : ClassId × ClassId × ClassId} {A : Nat → Prop} {Q : State → Prop} {a : Nat → Nat} {r : Int32} {σ' : St} (C : FX p s m args meth c RX7 cX7_readLine 2 g ts A) (hQ : RetI p l e (rk 281 7796) s m args below meth c cX7_readLine g (WC ts a) A r σ' Q) : ∀ (σ : St) (x1 : Int32) (H : Heap) (locs : List Loc) (ls : Array Slot), f_X7_readLine_b46 σ x1 = some (r, σ') → va_P g classes (WC ts a σ) H → va_D A (WC ts a σ) → va_S A s.heap H locs → lv_has ls 2 [(0, .ref (a 20)), (1, .int x1)] → W p l e (rk 281 7796) s m args below meth c H locs 0 0 Q (F0 m 46 ls []) := by
  have hx := C.1
  have hb := C.2.1
  have hown := C.2.2.2.1
  have hts := C.2.2.2.2.1
  intro σ x1 H locs ls hf hP hD hS hl
  rw [f_X7_readLine_b46] at hf
  refine lv_aload_n hx hb dX7_readLine_46 rfl (lv_at hl 0 rfl) ?_
  refine G_X7_law C hP q_249 dX7_readLine_47 ?_
  obtain ⟨j15, ej15, fj15, hf⟩ := derefL_some hf
  rw [lawv_s ej15]
  refine lv_bipush (v := -59) hx hb dX7_readLine_50 (by decide) ?_
  obtain ⟨σ17, h16, hf⟩ := bnd1_some hf
  refine vV [] C hP hD hS (c_X4_emit fj15 h16) mv_X4_emit q_547 (rv_X4 fj15) dX7_readLine_52 ⟨Nat.le_of_ble_eq_true rfl, Nat.le_of_ble_eq_true rfl⟩ ⟨Nat.zero_le _, Nat.zero_le _⟩ rfl rfl (Nat.le_of_ble_eq_true rfl) hl.1 (fun H locs hP hD hS => ?_)
  refine lv_iload_n hx hb dX7_readLine_55 rfl (lv_at hl 1 rfl) ?_
  exact retI hQ hf dX7_readLine_56 hP hD hS
set_option maxHeartbeats 4000000 in
set_option maxRecDepth 100000 in
theorem c_X7_readLine {l : Launch} {g : va_G} {ts : ClassId × ClassId × ClassId} {a : Nat → Nat} {σ : St} {r : Int32} {σ' : St} (hf : f_X7_readLine σ = some (r, σ')) : ConI l g ts (WC ts a) yX7_readLine cX7_readLine 2 (some .boolean) (rk 281 7796) σ [.ref (a 20)] r σ' := by
  rw [f_X7_readLine] at hf
  obtain ⟨hf, hn⟩ := chkB_some hf
  refine ConI_mk .boolean rfl hn rfl rfl (by decide) (Nat.le_of_ble_eq_true rfl) ?_
  intro p e s m below meth c A Q ls C hQ hP hD hS hl
  have C : FX p s m _ meth c RX7 cX7_readLine 2 g ts A := C
  have hx := C.1
  have hb := C.2.1
  have hown := C.2.2.2.1
  have hts := C.2.2.2.2.1
  have hl : lv_has ls 2 [(0, .ref (a 20))] := hl
  rw [f_X7_readLine0] at hf
  refine lv_aload_n hx hb dX7_readLine_0 rfl (lv_at hl 0 rfl) ?_
  refine lv_iconst (v := 0) hx hb dX7_readLine_1 (by decide) ?_
  refine lv_iconst (v := 0) hx hb dX7_readLine_2 (by decide) ?_
  obtain ⟨r2, σ3, h1, hf⟩ := bnd2_some hf
  refine vI [] C hP hD hS (c_X7_readRank h1) mv_X7_readRank q_532 rv_X7 dX7_readLine_3 ⟨Nat.le_of_ble_eq_true rfl, Nat.le_of_ble_eq_true rfl⟩ ⟨Nat.zero_le _, Nat.zero_le _⟩ rfl rfl (Nat.le_of_ble_eq_true rfl) hl.1 (fun H locs hP hD hS => ?_)
  refine lv_istore_n (lv' := [(1, .int r2), (0, .ref (a 20))]) hx hb dX7_readLine_6 rfl hl (by decide) rfl (fun ls hl => ?_)
  refine lv_iload_n hx hb dX7_readLine_7 rfl (lv_at hl 0 rfl) ?_
  refine lv_if_eq (tgt := 46) hx hb dX7_readLine_8 (by decide) (fun c4 => ?_) (fun c4 => ?_)
  · replace hf := ipos c4 hf
    exact w_X7_readLine_b46 C hQ _ _ _ _ _ hf hP hD hS (lv_sub hl [1, 0] rfl)
  · replace hf := ineg c4 hf
    refine lv_aload_n hx hb dX7_readLine_11 rfl (lv_at hl 1 rfl) ?_
    refine lv_bipush (v := 63) hx hb dX7_readLine_12 (by decide) ?_
    obtain ⟨r6, σ7, h5, hf⟩ := bnd2_some hf
    refine vI [] C hP hD hS (c_X7_isAt h5) mv_X7_isAt q_642 rv_X7 dX7_readLine_14 ⟨Nat.le_of_ble_eq_true rfl, Nat.le_of_ble_eq_true rfl⟩ ⟨Nat.zero_le _, Nat.zero_le _⟩ rfl rfl (Nat.le_of_ble_eq_true rfl) hl.1 (fun H locs hP hD hS => ?_)
    refine lv_if_eq (tgt := 46) hx hb dX7_readLine_17 (by decide) (fun c8 => ?_) (fun c8 => ?_)
    · replace hf := ipos c8 hf
      exact w_X7_readLine_b46 C hQ _ _ _ _ _ hf hP hD hS (lv_sub hl [1, 0] rfl)
    · replace hf := ineg c8 hf
      refine lv_aload_n hx hb dX7_readLine_20 rfl (lv_at hl 1 rfl) ?_
      refine lv_dup hx hb dX7_readLine_21 rfl ?_
      refine G_X7_at C hP q_248 dX7_readLine_22 ?_
      refine lv_iconst (v := 1) hx hb dX7_readLine_25 (by decide) ?_
      refine lv_iadd hx hb dX7_readLine_26 ?_
      refine S_X7_at C hP hD hS q_248 dX7_readLine_27 (fun H locs hP hD hS => ?_)
      refine lv_aload_n hx hb dX7_readLine_30 rfl (lv_at hl 1 rfl) ?_
      refine G_X7_law C hP q_249 dX7_readLine_31 ?_
      obtain ⟨j9, ej9, fj9, hf⟩ := derefL_some hf
      rw [lawv_s ej9]
      refine lv_bipush (v := -63) hx hb dX7_readLine_34 (by decide) ?_
      obtain ⟨σ11, h10, hf⟩ := bnd1_some hf
      refine vV [] C hP hD hS (c_X4_emit fj9 h10) mv_X4_emit q_547 (rv_X4 fj9) dX7_readLine_36 ⟨Nat.le_of_ble_eq_true rfl, Nat.le_of_ble_eq_true rfl⟩ ⟨Nat.zero_le _, Nat.zero_le _⟩ rfl rfl (Nat.le_of_ble_eq_true rfl) hl.1 (fun H locs hP hD hS => ?_)
      refine lv_aload_n hx hb dX7_readLine_39 rfl (lv_at hl 1 rfl) ?_
      refine lv_iconst (v := 0) hx hb dX7_readLine_40 (by decide) ?_
      refine lv_iconst (v := 0) hx hb dX7_readLine_41 (by decide) ?_
      obtain ⟨r13, σ14, h12, hf⟩ := bnd2_some hf
      refine vI [] C hP hD hS (c_X7_readRank h12) mv_X7_readRank q_532 rv_X7 dX7_readLine_42 ⟨Nat.le_of_ble_eq_true rfl, Nat.le_of_ble_eq_true rfl⟩ ⟨Nat.zero_le _, Nat.zero_le _⟩ rfl rfl (Nat.le_of_ble_eq_true rfl) hl.1 (fun H locs hP hD hS => ?_)
      refine lv_istore_n (lv' := [(1, .int r13), (0, .ref (a 20))]) hx hb dX7_readLine_45 rfl hl (by decide) rfl (fun ls hl => ?_)
      exact w_X7_readLine_b46 C hQ _ _ _ _ _ hf hP hD hS (lv_sub hl [1, 0] rfl)
theorem dX7_read_0 : decode cX7_read 0 = .ok (.aload_n 0, 1) := by decide +kernel
theorem dX7_read_1 : decode cX7_read 1 = .ok (.aload_n 1, 1) := by decide +kernel
theorem dX7_read_2 : decode cX7_read 2 = .ok (.putfield 17, 3) := by decide +kernel
theorem dX7_read_5 : decode cX7_read 5 = .ok (.aload_n 0, 1) := by decide +kernel
theorem dX7_read_6 : decode cX7_read 6 = .ok (.getfield 17, 3) := by decide +kernel
theorem dX7_read_9 : decode cX7_read 9 = .ok (.invokevirtual 21, 3) := by decide +kernel
theorem dX7_read_12 : decode cX7_read 12 = .ok (.aload_n 0, 1) := by decide +kernel
theorem dX7_read_13 : decode cX7_read 13 = .ok (.iconst 0, 1) := by decide +kernel
theorem dX7_read_14 : decode cX7_read 14 = .ok (.putfield 26, 3) := by decide +kernel
theorem dX7_read_17 : decode cX7_read 17 = .ok (.aload_n 0, 1) := by decide +kernel
theorem dX7_read_18 : decode cX7_read 18 = .ok (.invokevirtual 29, 3) := by decide +kernel
theorem dX7_read_21 : decode cX7_read 21 = .ok (.istore_n 2, 1) := by decide +kernel
theorem dX7_read_22 : decode cX7_read 22 = .ok (.iconst 0, 1) := by decide +kernel
theorem dX7_read_23 : decode cX7_read 23 = .ok (.istore_n 3, 1) := by decide +kernel
theorem dX7_read_24 : decode cX7_read 24 = .ok (.iload_n 3, 1) := by decide +kernel
theorem dX7_read_25 : decode cX7_read 25 = .ok (.bipush 120, 2) := by decide +kernel
theorem dX7_read_27 : decode cX7_read 27 = .ok (.if_icmp .ge 37, 3) := by decide +kernel
theorem dX7_read_30 : decode cX7_read 30 = .ok (.iload_n 2, 1) := by decide +kernel
theorem dX7_read_31 : decode cX7_read 31 = .ok (.ifCond .eq 33, 3) := by decide +kernel
theorem dX7_read_34 : decode cX7_read 34 = .ok (.aload_n 0, 1) := by decide +kernel
theorem dX7_read_35 : decode cX7_read 35 = .ok (.bipush 59, 2) := by decide +kernel
theorem dX7_read_37 : decode cX7_read 37 = .ok (.invokevirtual 33, 3) := by decide +kernel
theorem dX7_read_40 : decode cX7_read 40 = .ok (.ifCond .eq 24, 3) := by decide +kernel
theorem dX7_read_43 : decode cX7_read 43 = .ok (.aload_n 0, 1) := by decide +kernel
theorem dX7_read_44 : decode cX7_read 44 = .ok (.dup, 1) := by decide +kernel
theorem dX7_read_45 : decode cX7_read 45 = .ok (.getfield 26, 3) := by decide +kernel
theorem dX7_read_48 : decode cX7_read 48 = .ok (.iconst 1, 1) := by decide +kernel
theorem dX7_read_49 : decode cX7_read 49 = .ok (.iadd, 1) := by decide +kernel
theorem dX7_read_50 : decode cX7_read 50 = .ok (.putfield 26, 3) := by decide +kernel
theorem dX7_read_53 : decode cX7_read 53 = .ok (.aload_n 0, 1) := by decide +kernel
theorem dX7_read_54 : decode cX7_read 54 = .ok (.invokevirtual 29, 3) := by decide +kernel
theorem dX7_read_57 : decode cX7_read 57 = .ok (.istore_n 2, 1) := by decide +kernel
theorem dX7_read_58 : decode cX7_read 58 = .ok (.iinc 3 1, 3) := by decide +kernel
theorem dX7_read_61 : decode cX7_read 61 = .ok (.goto (-37), 3) := by decide +kernel
theorem dX7_read_64 : decode cX7_read 64 = .ok (.iload_n 2, 1) := by decide +kernel
theorem dX7_read_65 : decode cX7_read 65 = .ok (.ifCond .eq 18, 3) := by decide +kernel
theorem dX7_read_68 : decode cX7_read 68 = .ok (.aload_n 0, 1) := by decide +kernel
theorem dX7_read_69 : decode cX7_read 69 = .ok (.getfield 26, 3) := by decide +kernel
theorem dX7_read_72 : decode cX7_read 72 = .ok (.aload_n 0, 1) := by decide +kernel
theorem dX7_read_73 : decode cX7_read 73 = .ok (.getfield 13, 3) := by decide +kernel
theorem dX7_read_76 : decode cX7_read 76 = .ok (.if_icmp .ne 7, 3) := by decide +kernel
theorem dX7_read_79 : decode cX7_read 79 = .ok (.iconst (-1), 1) := by decide +kernel
theorem dX7_read_80 : decode cX7_read 80 = .ok (.goto 7, 3) := by decide +kernel
theorem dX7_read_83 : decode cX7_read 83 = .ok (.aload_n 0, 1) := by decide +kernel
theorem dX7_read_84 : decode cX7_read 84 = .ok (.getfield 26, 3) := by decide +kernel
theorem dX7_read_87 : decode cX7_read 87 = .ok (.ireturn, 1) := by decide +kernel
def f_X7_read_b64 (σ : St) (x2 : Int32) : Option (Int32 × St) := if x2 = 0 then (some (σ.1 352 0, σ)) else (if σ.1 352 0 = σ.1 351 0 then (some ((-1 : Int32), σ)) else (some (σ.1 352 0, σ)))
def f_X7_read_b24 : Nat → St → Int32 → Int32 → Option (Int32 × St)
  | 0, _, _, _ => none
  | n + 1, σ, x2, x3 => if (120 : Int32) ≤ x3 then (f_X7_read_b64 σ x2) else (if x2 = 0 then (f_X7_read_b64 σ x2) else (bnd2 (f_X7_isAt σ (59 : Int32)) (fun r10 σ11 => if r10 = 0 then (f_X7_read_b64 σ11 x2) else (bnd2 (f_X7_readLine (sI σ11 352 0 ((σ11.1 352 0) + (1 : Int32)))) (fun r14 σ15 => bnd (x3 + 1) (fun v16 => f_X7_read_b24 n σ15 r14 v16))))))
def f_X7_read (σ : St) (i1 : Nat) : Option (Int32 × St) := derefL (sR σ 353 (i1 + 1)) ((sR σ 353 (i1 + 1)).2.2.2.2 353) (fun j1 => bnd1 (f_X4_clear (sR σ 353 (i1 + 1)) j1) (fun σ3 => bnd2 (f_X7_readLine (sI σ3 352 0 (0 : Int32))) (fun r5 σ6 => f_X7_read_b24 256 σ6 r5 (0 : Int32))))
set_option maxHeartbeats 4000000 in
set_option maxRecDepth 100000 in
theorem w_X7_read_b64 {p : Program} {l : Launch} {e : Env} {s : State} {m : MethodId} {args : Array Value} {below : List Frame} {meth : Method} {c : Code} {g : va_G} {ts : ClassId × ClassId × ClassId} {A : Nat → Prop} {Q : State → Prop} {a : Nat → Nat} {r : Int32} {σ' : St} (C : FX p s m args meth c RX7 cX7_read 4 g ts A) (hQ : RetI p l e (rk 282 7817) s m args below meth c cX7_read g (WC ts a) A r σ' Q) : ∀ (σ : St) (x2 : Int32) (H : Heap) (locs : List Loc) (ls : Array Slot), f_X7_read_b64 σ x2 = some (r, σ') → va_P g classes (WC ts a σ) H → va_D A (WC ts a σ) → va_S A s.heap H locs → lv_has ls 4 [(0, .ref (a 20)), (2, .int x2)] → W p l e (rk 282 7817) s m args below meth c H locs 0 0 Q (F0 m 64 ls []) := by
  have hx := C.1
  have hb := C.2.1
  have hown := C.2.2.2.1
  have hts := C.2.2.2.2.1
  intro σ x2 H locs ls hf hP hD hS hl
  rw [f_X7_read_b64] at hf
  refine lv_iload_n hx hb dX7_read_64 rfl (lv_at hl 1 rfl) ?_
  refine lv_if_eq (tgt := 83) hx hb dX7_read_65 (by decide) (fun c17 => ?_) (fun c17 => ?_)
  · replace hf := ipos c17 hf
    refine lv_aload_n hx hb dX7_read_83 rfl (lv_at hl 0 rfl) ?_
    refine G_X7_at C hP q_248 dX7_read_84 ?_
    exact retI hQ hf dX7_read_87 hP hD hS
  · replace hf := ineg c17 hf
    refine lv_aload_n hx hb dX7_read_68 rfl (lv_at hl 0 rfl) ?_
    refine G_X7_at C hP q_248 dX7_read_69 ?_
    refine lv_aload_n hx hb dX7_read_72 rfl (lv_at hl 0 rfl) ?_
    refine G_X7_length C hP q_246 dX7_read_73 ?_
    refine lv_icmp_ne (tgt := 83) hx hb dX7_read_76 (by decide) (fun c18 => ?_) (fun c18 => ?_)
    · replace hf := ineg c18 hf
      refine lv_aload_n hx hb dX7_read_83 rfl (lv_at hl 0 rfl) ?_
      refine G_X7_at C hP q_248 dX7_read_84 ?_
      exact retI hQ hf dX7_read_87 hP hD hS
    · replace hf := ipos c18 hf
      refine lv_iconst (v := -1) hx hb dX7_read_79 (by decide) ?_
      refine lv_goto (tgt := 87) hx hb dX7_read_80 (by decide) ?_
      exact retI hQ hf dX7_read_87 hP hD hS
set_option maxHeartbeats 4000000 in
set_option maxRecDepth 100000 in
theorem w_X7_read_b24 {p : Program} {l : Launch} {e : Env} {s : State} {m : MethodId} {args : Array Value} {below : List Frame} {meth : Method} {c : Code} {g : va_G} {ts : ClassId × ClassId × ClassId} {A : Nat → Prop} {Q : State → Prop} {a : Nat → Nat} {r : Int32} {σ' : St} (C : FX p s m args meth c RX7 cX7_read 4 g ts A) (hQ : RetI p l e (rk 282 7817) s m args below meth c cX7_read g (WC ts a) A r σ' Q) : ∀ (n : Nat) (σ : St) (x2 : Int32) (x3 : Int32) (H : Heap) (locs : List Loc) (ls : Array Slot), f_X7_read_b24 n σ x2 x3 = some (r, σ') → va_P g classes (WC ts a σ) H → va_D A (WC ts a σ) → va_S A s.heap H locs → lv_has ls 4 [(0, .ref (a 20)), (2, .int x2), (3, .int x3)] → W p l e (rk 282 7817) s m args below meth c H locs 0 0 Q (F0 m 24 ls []) := by
  have hx := C.1
  have hb := C.2.1
  have hown := C.2.2.2.1
  have hts := C.2.2.2.2.1
  intro n
  induction n with
  | zero =>
    intro σ x2 x3 H locs ls hf
    cases hf
  | succ n ih =>
    intro σ x2 x3 H locs ls hf hP hD hS hl
    rw [f_X7_read_b24] at hf
    refine lv_iload_n hx hb dX7_read_24 rfl (lv_at hl 2 rfl) ?_
    refine lv_bipush (v := 120) hx hb dX7_read_25 (by decide) ?_
    refine lv_icmp_ge (tgt := 64) hx hb dX7_read_27 (by decide) (fun c7 => ?_) (fun c7 => ?_)
    · replace hf := ipos c7 hf
      exact w_X7_read_b64 C hQ _ _ _ _ _ hf hP hD hS (lv_sub hl [0, 1] rfl)
    · replace hf := ineg c7 hf
      refine lv_iload_n hx hb dX7_read_30 rfl (lv_at hl 1 rfl) ?_
      refine lv_if_eq (tgt := 64) hx hb dX7_read_31 (by decide) (fun c8 => ?_) (fun c8 => ?_)
      · replace hf := ipos c8 hf
        exact w_X7_read_b64 C hQ _ _ _ _ _ hf hP hD hS (lv_sub hl [0, 1] rfl)
      · replace hf := ineg c8 hf
        refine lv_aload_n hx hb dX7_read_34 rfl (lv_at hl 0 rfl) ?_
        refine lv_bipush (v := 59) hx hb dX7_read_35 (by decide) ?_
        obtain ⟨r10, σ11, h9, hf⟩ := bnd2_some hf
        refine vI [] C hP hD hS (c_X7_isAt h9) mv_X7_isAt q_642 rv_X7 dX7_read_37 ⟨Nat.le_of_ble_eq_true rfl, Nat.le_of_ble_eq_true rfl⟩ ⟨Nat.zero_le _, Nat.zero_le _⟩ rfl rfl (Nat.le_of_ble_eq_true rfl) hl.1 (fun H locs hP hD hS => ?_)
        refine lv_if_eq (tgt := 64) hx hb dX7_read_40 (by decide) (fun c12 => ?_) (fun c12 => ?_)
        · replace hf := ipos c12 hf
          exact w_X7_read_b64 C hQ _ _ _ _ _ hf hP hD hS (lv_sub hl [0, 1] rfl)
        · replace hf := ineg c12 hf
          refine lv_aload_n hx hb dX7_read_43 rfl (lv_at hl 0 rfl) ?_
          refine lv_dup hx hb dX7_read_44 rfl ?_
          refine G_X7_at C hP q_248 dX7_read_45 ?_
          refine lv_iconst (v := 1) hx hb dX7_read_48 (by decide) ?_
          refine lv_iadd hx hb dX7_read_49 ?_
          refine S_X7_at C hP hD hS q_248 dX7_read_50 (fun H locs hP hD hS => ?_)
          refine lv_aload_n hx hb dX7_read_53 rfl (lv_at hl 0 rfl) ?_
          obtain ⟨r14, σ15, h13, hf⟩ := bnd2_some hf
          refine vI [] C hP hD hS (c_X7_readLine h13) mv_X7_readLine q_528 rv_X7 dX7_read_54 ⟨Nat.le_of_ble_eq_true rfl, Nat.le_of_ble_eq_true rfl⟩ ⟨Nat.zero_le _, Nat.zero_le _⟩ rfl rfl (Nat.le_of_ble_eq_true rfl) hl.1 (fun H locs hP hD hS => ?_)
          refine lv_istore_n (lv' := [(2, .int r14), (0, .ref (a 20)), (3, .int x3)]) hx hb dX7_read_57 rfl hl (by decide) rfl (fun ls hl => ?_)
          obtain ⟨v16, ev16⟩ : ∃ z : Int32, z = x3 + 1 := ⟨_, rfl⟩
          replace hf := bnd_at ev16 hf
          refine lv_iinc (v := v16) (lv' := [(3, .int v16), (2, .int r14), (0, .ref (a 20))]) hx hb dX7_read_58 hl (k := 2) rfl (by rw [ev16]; rfl) (by decide) rfl (fun ls hl => ?_)
          refine lv_goto (tgt := 24) hx hb dX7_read_61 (by decide) ?_
          exact ih _ _ _ _ _ _ hf hP hD hS (lv_sub hl [2, 1, 0] rfl)
set_option maxHeartbeats 4000000 in
set_option maxRecDepth 100000 in
theorem c_X7_read {l : Launch} {g : va_G} {ts : ClassId × ClassId × ClassId} {a : Nat → Nat} {σ : St} {i1 : Nat} {r : Int32} {σ' : St} (hi1 : lawOk σ i1) (hf : f_X7_read σ i1 = some (r, σ')) : ConI l g ts (WC ts a) yX7_read cX7_read 4 (some .int) (rk 282 7817) σ [.ref (a 20), .ref (a (48 + 4 * i1))] r σ' := by
  refine ConI_mk .int rfl rfl rfl rfl (by decide) (Nat.le_of_ble_eq_true rfl) ?_
  intro p e s m below meth c A Q ls C hQ hP hD hS hl
  have C : FX p s m _ meth c RX7 cX7_read 4 g ts A := C
  have hx := C.1
  have hb := C.2.1
  have hown := C.2.2.2.1
  have hts := C.2.2.2.2.1
  have hl : lv_has ls 4 [(0, .ref (a 20)), (1, .ref (a (48 + 4 * i1)))] := hl
  rw [f_X7_read] at hf
  refine lv_aload_n hx hb dX7_read_0 rfl (lv_at hl 0 rfl) ?_
  refine lv_aload_n hx hb dX7_read_1 rfl (lv_at hl 1 rfl) ?_
  refine S_X7_law C hP hD hS q_249 dX7_read_2 (fun H locs hP hD hS => ?_)
  refine lv_aload_n hx hb dX7_read_5 rfl (lv_at hl 0 rfl) ?_
  refine G_X7_law C hP q_249 dX7_read_6 ?_
  obtain ⟨j1, ej1, fj1, hf⟩ := derefL_some hf
  rw [lawv_s ej1]
  obtain ⟨σ3, h2, hf⟩ := bnd1_some hf
  refine vV [] C hP hD hS (c_X4_clear fj1 h2) mv_X4_clear q_524 (rv_X4 fj1) dX7_read_9 ⟨Nat.le_of_ble_eq_true rfl, Nat.le_of_ble_eq_true rfl⟩ ⟨Nat.zero_le _, Nat.zero_le _⟩ rfl rfl (Nat.le_of_ble_eq_true rfl) hl.1 (fun H locs hP hD hS => ?_)
  refine lv_aload_n hx hb dX7_read_12 rfl (lv_at hl 0 rfl) ?_
  refine lv_iconst (v := 0) hx hb dX7_read_13 (by decide) ?_
  refine S_X7_at C hP hD hS q_248 dX7_read_14 (fun H locs hP hD hS => ?_)
  refine lv_aload_n hx hb dX7_read_17 rfl (lv_at hl 0 rfl) ?_
  obtain ⟨r5, σ6, h4, hf⟩ := bnd2_some hf
  refine vI [] C hP hD hS (c_X7_readLine h4) mv_X7_readLine q_528 rv_X7 dX7_read_18 ⟨Nat.le_of_ble_eq_true rfl, Nat.le_of_ble_eq_true rfl⟩ ⟨Nat.zero_le _, Nat.zero_le _⟩ rfl rfl (Nat.le_of_ble_eq_true rfl) hl.1 (fun H locs hP hD hS => ?_)
  refine lv_istore_n (lv' := [(2, .int r5), (0, .ref (a 20)), (1, .ref (a (48 + 4 * i1)))]) hx hb dX7_read_21 rfl hl (by decide) rfl (fun ls hl => ?_)
  refine lv_iconst (v := 0) hx hb dX7_read_22 (by decide) ?_
  refine lv_istore_n (lv' := [(3, .int (0 : Int32)), (2, .int r5), (0, .ref (a 20)), (1, .ref (a (48 + 4 * i1)))]) hx hb dX7_read_23 rfl hl (by decide) rfl (fun ls hl => ?_)
  exact w_X7_read_b24 C hQ 256 _ _ _ _ _ _ hf hP hD hS (lv_sub hl [2, 1, 0] rfl)
