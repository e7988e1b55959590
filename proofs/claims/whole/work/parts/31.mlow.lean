theorem mv_X12_byteAt : MV yX12_byteAt cX12_byteAt 1 (some .int) 0 := ⟨q_1309, q_29, q_71, q_1310, by decide +kernel, by decide +kernel, by decide +kernel⟩
theorem mv_X12_wrong : MV yX12_wrong cX12_wrong 1 (some .int) 0 := ⟨q_1313, q_30, q_71, q_1314, by decide +kernel, by decide +kernel, by decide +kernel⟩
theorem mv_X12_takes : MV yX12_takes cX12_takes 2 (some .boolean) 1 := ⟨q_1317, q_31, q_71, q_1318, by decide +kernel, by decide +kernel, by decide +kernel⟩
theorem mv_X12_begins : MV yX12_begins cX12_begins 2 none 1 := ⟨q_1535, q_51, q_71, q_1536, by decide +kernel, by decide +kernel, by decide +kernel⟩
theorem dX12_byteAt_0 : decode cX12_byteAt 0 = .ok (.aload_n 0, 1) := by decide +kernel
theorem dX12_byteAt_1 : decode cX12_byteAt 1 = .ok (.getfield 144, 3) := by decide +kernel
theorem dX12_byteAt_4 : decode cX12_byteAt 4 = .ok (.aload_n 0, 1) := by decide +kernel
theorem dX12_byteAt_5 : decode cX12_byteAt 5 = .ok (.getfield 147, 3) := by decide +kernel
theorem dX12_byteAt_8 : decode cX12_byteAt 8 = .ok (.if_icmp .ge 39, 3) := by decide +kernel
theorem dX12_byteAt_11 : decode cX12_byteAt 11 = .ok (.aload_n 0, 1) := by decide +kernel
theorem dX12_byteAt_12 : decode cX12_byteAt 12 = .ok (.getfield 150, 3) := by decide +kernel
theorem dX12_byteAt_15 : decode cX12_byteAt 15 = .ok (.ifCond .ge 15, 3) := by decide +kernel
theorem dX12_byteAt_18 : decode cX12_byteAt 18 = .ok (.aload_n 0, 1) := by decide +kernel
theorem dX12_byteAt_19 : decode cX12_byteAt 19 = .ok (.getfield 30, 3) := by decide +kernel
theorem dX12_byteAt_22 : decode cX12_byteAt 22 = .ok (.aload_n 0, 1) := by decide +kernel
theorem dX12_byteAt_23 : decode cX12_byteAt 23 = .ok (.getfield 144, 3) := by decide +kernel
theorem dX12_byteAt_26 : decode cX12_byteAt 26 = .ok (.iaload, 1) := by decide +kernel
theorem dX12_byteAt_27 : decode cX12_byteAt 27 = .ok (.goto 21, 3) := by decide +kernel
theorem dX12_byteAt_30 : decode cX12_byteAt 30 = .ok (.aload_n 0, 1) := by decide +kernel
theorem dX12_byteAt_31 : decode cX12_byteAt 31 = .ok (.getfield 33, 3) := by decide +kernel
theorem dX12_byteAt_34 : decode cX12_byteAt 34 = .ok (.aload_n 0, 1) := by decide +kernel
theorem dX12_byteAt_35 : decode cX12_byteAt 35 = .ok (.getfield 150, 3) := by decide +kernel
theorem dX12_byteAt_38 : decode cX12_byteAt 38 = .ok (.aload_n 0, 1) := by decide +kernel
theorem dX12_byteAt_39 : decode cX12_byteAt 39 = .ok (.getfield 144, 3) := by decide +kernel
theorem dX12_byteAt_42 : decode cX12_byteAt 42 = .ok (.iadd, 1) := by decide +kernel
theorem dX12_byteAt_43 : decode cX12_byteAt 43 = .ok (.iaload, 1) := by decide +kernel
theorem dX12_byteAt_44 : decode cX12_byteAt 44 = .ok (.goto 4, 3) := by decide +kernel
theorem dX12_byteAt_47 : decode cX12_byteAt 47 = .ok (.iconst 0, 1) := by decide +kernel
theorem dX12_byteAt_48 : decode cX12_byteAt 48 = .ok (.ireturn, 1) := by decide +kernel
def f_X12_byteAt (σ : St) : Option (Int32 × St) := if σ.1 615 0 ≤ σ.1 614 0 then (some ((0 : Int32), σ)) else (if 0 ≤ σ.1 613 0 then (chk ((σ.1 613 0) + (σ.1 614 0) < 0 ∨ 120 ≤ ((σ.1 613 0) + (σ.1 614 0)).toNatClampNeg) (some (σ.2.2.1 611 0 ((σ.1 613 0) + (σ.1 614 0)).toNatClampNeg, σ))) else (chk (σ.1 614 0 < 0 ∨ 120 ≤ (σ.1 614 0).toNatClampNeg) (some (σ.2.2.1 609 0 (σ.1 614 0).toNatClampNeg, σ))))
set_option maxHeartbeats 4000000 in
set_option maxRecDepth 100000 in
theorem c_X12_byteAt {l : Launch} {g : va_G} {ts : ClassId × ClassId × ClassId} {a : Nat → Nat} {σ : St} {r : Int32} {σ' : St} (hf : f_X12_byteAt σ = some (r, σ')) : ConI l g ts (WM ts a) yX12_byteAt cX12_byteAt 1 (some .int) (rk 0 0) σ [.ref (a 0)] r σ' := by
  refine ConI_mk .int rfl rfl rfl rfl (by decide) (Nat.le_of_ble_eq_true rfl) ?_
  intro p e s m below meth c A Q ls C hQ hP hD hS hl
  have C : FX p s m _ meth c RX12 cX12_byteAt 1 g ts A := C
  have hx := C.1
  have hb := C.2.1
  have hown := C.2.2.2.1
  have hts := C.2.2.2.2.1
  have hl : lv_has ls 1 [(0, .ref (a 0))] := hl
  rw [f_X12_byteAt] at hf
  refine lv_aload_n hx hb dX12_byteAt_0 rfl (lv_at hl 0 rfl) ?_
  refine G_X12_at C hP q_1086 dX12_byteAt_1 ?_
  refine lv_aload_n hx hb dX12_byteAt_4 rfl (lv_at hl 0 rfl) ?_
  refine G_X12_ends C hP q_1087 dX12_byteAt_5 ?_
  refine lv_icmp_ge (tgt := 47) hx hb dX12_byteAt_8 (by decide) (fun c1 => ?_) (fun c1 => ?_)
  · replace hf := ipos c1 hf
    refine lv_iconst (v := 0) hx hb dX12_byteAt_47 (by decide) ?_
    exact retI hQ hf dX12_byteAt_48 hP hD hS
  · replace hf := ineg c1 hf
    refine lv_aload_n hx hb dX12_byteAt_11 rfl (lv_at hl 0 rfl) ?_
    refine G_X12_base C hP q_1085 dX12_byteAt_12 ?_
    refine lv_if_ge (tgt := 30) hx hb dX12_byteAt_15 (by decide) (fun c2 => ?_) (fun c2 => ?_)
    · replace hf := ipos c2 hf
      refine lv_aload_n hx hb dX12_byteAt_30 rfl (lv_at hl 0 rfl) ?_
      refine G_X12_text C hP q_1083 dX12_byteAt_31 ?_
      refine lv_aload_n hx hb dX12_byteAt_34 rfl (lv_at hl 0 rfl) ?_
      refine G_X12_base C hP q_1085 dX12_byteAt_35 ?_
      refine lv_aload_n hx hb dX12_byteAt_38 rfl (lv_at hl 0 rfl) ?_
      refine G_X12_at C hP q_1086 dX12_byteAt_39 ?_
      refine lv_iadd hx hb dX12_byteAt_42 ?_
      obtain ⟨h3, hf⟩ := chk_some hf
      refine AL_X12_text C hP h3 dX12_byteAt_43 ?_
      refine lv_goto (tgt := 48) hx hb dX12_byteAt_44 (by decide) ?_
      exact retI hQ hf dX12_byteAt_48 hP hD hS
    · replace hf := ineg c2 hf
      refine lv_aload_n hx hb dX12_byteAt_18 rfl (lv_at hl 0 rfl) ?_
      refine G_X12_tape C hP q_1081 dX12_byteAt_19 ?_
      refine lv_aload_n hx hb dX12_byteAt_22 rfl (lv_at hl 0 rfl) ?_
      refine G_X12_at C hP q_1086 dX12_byteAt_23 ?_
      obtain ⟨h4, hf⟩ := chk_some hf
      refine AL_X12_tape C hP h4 dX12_byteAt_26 ?_
      refine lv_goto (tgt := 48) hx hb dX12_byteAt_27 (by decide) ?_
      exact retI hQ hf dX12_byteAt_48 hP hD hS
theorem dX12_wrong_0 : decode cX12_wrong 0 = .ok (.aload_n 0, 1) := by decide +kernel
theorem dX12_wrong_1 : decode cX12_wrong 1 = .ok (.aload_n 0, 1) := by decide +kernel
theorem dX12_wrong_2 : decode cX12_wrong 2 = .ok (.getfield 153, 3) := by decide +kernel
theorem dX12_wrong_5 : decode cX12_wrong 5 = .ok (.ifCond .ge 10, 3) := by decide +kernel
theorem dX12_wrong_8 : decode cX12_wrong 8 = .ok (.aload_n 0, 1) := by decide +kernel
theorem dX12_wrong_9 : decode cX12_wrong 9 = .ok (.getfield 144, 3) := by decide +kernel
theorem dX12_wrong_12 : decode cX12_wrong 12 = .ok (.goto 7, 3) := by decide +kernel
theorem dX12_wrong_15 : decode cX12_wrong 15 = .ok (.aload_n 0, 1) := by decide +kernel
theorem dX12_wrong_16 : decode cX12_wrong 16 = .ok (.getfield 153, 3) := by decide +kernel
theorem dX12_wrong_19 : decode cX12_wrong 19 = .ok (.putfield 153, 3) := by decide +kernel
theorem dX12_wrong_22 : decode cX12_wrong 22 = .ok (.iconst 0, 1) := by decide +kernel
theorem dX12_wrong_23 : decode cX12_wrong 23 = .ok (.ireturn, 1) := by decide +kernel
def f_X12_wrong (σ : St) : Option (Int32 × St) := if 0 ≤ σ.1 616 0 then (some ((0 : Int32), sI σ 616 0 (σ.1 616 0))) else (some ((0 : Int32), sI σ 616 0 (σ.1 614 0)))
set_option maxHeartbeats 4000000 in
set_option maxRecDepth 100000 in
theorem c_X12_wrong {l : Launch} {g : va_G} {ts : ClassId × ClassId × ClassId} {a : Nat → Nat} {σ : St} {r : Int32} {σ' : St} (hf : f_X12_wrong σ = some (r, σ')) : ConI l g ts (WM ts a) yX12_wrong cX12_wrong 1 (some .int) (rk 0 0) σ [.ref (a 0)] r σ' := by
  refine ConI_mk .int rfl rfl rfl rfl (by decide) (Nat.le_of_ble_eq_true rfl) ?_
  intro p e s m below meth c A Q ls C hQ hP hD hS hl
  have C : FX p s m _ meth c RX12 cX12_wrong 1 g ts A := C
  have hx := C.1
  have hb := C.2.1
  have hown := C.2.2.2.1
  have hts := C.2.2.2.2.1
  have hl : lv_has ls 1 [(0, .ref (a 0))] := hl
  rw [f_X12_wrong] at hf
  refine lv_aload_n hx hb dX12_wrong_0 rfl (lv_at hl 0 rfl) ?_
  refine lv_aload_n hx hb dX12_wrong_1 rfl (lv_at hl 0 rfl) ?_
  refine G_X12_fault C hP q_1088 dX12_wrong_2 ?_
  refine lv_if_ge (tgt := 15) hx hb dX12_wrong_5 (by decide) (fun c1 => ?_) (fun c1 => ?_)
  · replace hf := ipos c1 hf
    refine lv_aload_n hx hb dX12_wrong_15 rfl (lv_at hl 0 rfl) ?_
    refine G_X12_fault C hP q_1088 dX12_wrong_16 ?_
    refine S_X12_fault C hP hD hS q_1088 dX12_wrong_19 (fun H locs hP hD hS => ?_)
    refine lv_iconst (v := 0) hx hb dX12_wrong_22 (by decide) ?_
    exact retI hQ hf dX12_wrong_23 hP hD hS
  · replace hf := ineg c1 hf
    refine lv_aload_n hx hb dX12_wrong_8 rfl (lv_at hl 0 rfl) ?_
    refine G_X12_at C hP q_1086 dX12_wrong_9 ?_
    refine lv_goto (tgt := 19) hx hb dX12_wrong_12 (by decide) ?_
    refine S_X12_fault C hP hD hS q_1088 dX12_wrong_19 (fun H locs hP hD hS => ?_)
    refine lv_iconst (v := 0) hx hb dX12_wrong_22 (by decide) ?_
    exact retI hQ hf dX12_wrong_23 hP hD hS
theorem dX12_takes_0 : decode cX12_takes 0 = .ok (.aload_n 0, 1) := by decide +kernel
theorem dX12_takes_1 : decode cX12_takes 1 = .ok (.getfield 153, 3) := by decide +kernel
theorem dX12_takes_4 : decode cX12_takes 4 = .ok (.ifCond .ge 11, 3) := by decide +kernel
theorem dX12_takes_7 : decode cX12_takes 7 = .ok (.aload_n 0, 1) := by decide +kernel
theorem dX12_takes_8 : decode cX12_takes 8 = .ok (.invokevirtual 156, 3) := by decide +kernel
theorem dX12_takes_11 : decode cX12_takes 11 = .ok (.iload_n 1, 1) := by decide +kernel
theorem dX12_takes_12 : decode cX12_takes 12 = .ok (.if_icmp .eq 5, 3) := by decide +kernel
theorem dX12_takes_15 : decode cX12_takes 15 = .ok (.iconst 0, 1) := by decide +kernel
theorem dX12_takes_16 : decode cX12_takes 16 = .ok (.ireturn, 1) := by decide +kernel
theorem dX12_takes_17 : decode cX12_takes 17 = .ok (.aload_n 0, 1) := by decide +kernel
theorem dX12_takes_18 : decode cX12_takes 18 = .ok (.dup, 1) := by decide +kernel
theorem dX12_takes_19 : decode cX12_takes 19 = .ok (.getfield 144, 3) := by decide +kernel
theorem dX12_takes_22 : decode cX12_takes 22 = .ok (.iconst 1, 1) := by decide +kernel
theorem dX12_takes_23 : decode cX12_takes 23 = .ok (.iadd, 1) := by decide +kernel
theorem dX12_takes_24 : decode cX12_takes 24 = .ok (.putfield 144, 3) := by decide +kernel
theorem dX12_takes_27 : decode cX12_takes 27 = .ok (.iconst 1, 1) := by decide +kernel
theorem dX12_takes_28 : decode cX12_takes 28 = .ok (.ireturn, 1) := by decide +kernel
def f_X12_takes0 (σ : St) (p1 : Int32) : Option (Int32 × St) := if 0 ≤ σ.1 616 0 then (some ((0 : Int32), σ)) else (bnd2 (f_X12_byteAt σ) (fun r3 σ4 => if r3 = p1 then (some ((1 : Int32), sI σ4 614 0 ((σ4.1 614 0) + (1 : Int32)))) else (some ((0 : Int32), σ4))))
def f_X12_takes (σ : St) (p1 : Int32) : Option (Int32 × St) := chkB (f_X12_takes0 σ p1)
set_option maxHeartbeats 4000000 in
set_option maxRecDepth 100000 in
theorem c_X12_takes {l : Launch} {g : va_G} {ts : ClassId × ClassId × ClassId} {a : Nat → Nat} {σ : St} {p1 : Int32} {r : Int32} {σ' : St} (hf : f_X12_takes σ p1 = some (r, σ')) : ConI l g ts (WM ts a) yX12_takes cX12_takes 2 (some .boolean) (rk 1 20) σ [.ref (a 0), .int p1] r σ' := by
  rw [f_X12_takes] at hf
  obtain ⟨hf, hn⟩ := chkB_some hf
  refine ConI_mk .boolean rfl hn rfl rfl (by decide) (Nat.le_of_ble_eq_true rfl) ?_
  intro p e s m below meth c A Q ls C hQ hP hD hS hl
  have C : FX p s m _ meth c RX12 cX12_takes 2 g ts A := C
  have hx := C.1
  have hb := C.2.1
  have hown := C.2.2.2.1
  have hts := C.2.2.2.2.1
  have hl : lv_has ls 2 [(0, .ref (a 0)), (1, .int p1)] := hl
  rw [f_X12_takes0] at hf
  refine lv_aload_n hx hb dX12_takes_0 rfl (lv_at hl 0 rfl) ?_
  refine G_X12_fault C hP q_1088 dX12_takes_1 ?_
  refine lv_if_ge (tgt := 15) hx hb dX12_takes_4 (by decide) (fun c1 => ?_) (fun c1 => ?_)
  · replace hf := ipos c1 hf
    refine lv_iconst (v := 0) hx hb dX12_takes_15 (by decide) ?_
    exact retI hQ hf dX12_takes_16 hP hD hS
  · replace hf := ineg c1 hf
    refine lv_aload_n hx hb dX12_takes_7 rfl (lv_at hl 0 rfl) ?_
    obtain ⟨r3, σ4, h2, hf⟩ := bnd2_some hf
    refine vI [] C hP hD hS (c_X12_byteAt h2) mv_X12_byteAt q_1307 rv_X12 dX12_takes_8 ⟨Nat.le_of_ble_eq_true rfl, Nat.le_of_ble_eq_true rfl⟩ ⟨Nat.zero_le _, Nat.zero_le _⟩ rfl rfl (Nat.le_of_ble_eq_true rfl) hl.1 (fun H locs hP hD hS => ?_)
    refine lv_iload_n hx hb dX12_takes_11 rfl (lv_at hl 1 rfl) ?_
    refine lv_icmp_eq (tgt := 17) hx hb dX12_takes_12 (by decide) (fun c5 => ?_) (fun c5 => ?_)
    · replace hf := ipos c5 hf
      refine lv_aload_n hx hb dX12_takes_17 rfl (lv_at hl 0 rfl) ?_
      refine lv_dup hx hb dX12_takes_18 rfl ?_
      refine G_X12_at C hP q_1086 dX12_takes_19 ?_
      refine lv_iconst (v := 1) hx hb dX12_takes_22 (by decide) ?_
      refine lv_iadd hx hb dX12_takes_23 ?_
      refine S_X12_at C hP hD hS q_1086 dX12_takes_24 (fun H locs hP hD hS => ?_)
      refine lv_iconst (v := 1) hx hb dX12_takes_27 (by decide) ?_
      exact retI hQ hf dX12_takes_28 hP hD hS
    · replace hf := ineg c5 hf
      refine lv_iconst (v := 0) hx hb dX12_takes_15 (by decide) ?_
      exact retI hQ hf dX12_takes_16 hP hD hS
theorem dX12_begins_0 : decode cX12_begins 0 = .ok (.aload_n 0, 1) := by decide +kernel
theorem dX12_begins_1 : decode cX12_begins 1 = .ok (.getfield 310, 3) := by decide +kernel
theorem dX12_begins_4 : decode cX12_begins 4 = .ok (.bipush 24, 2) := by decide +kernel
theorem dX12_begins_6 : decode cX12_begins 6 = .ok (.if_icmp .ge 13, 3) := by decide +kernel
theorem dX12_begins_9 : decode cX12_begins 9 = .ok (.aload_n 0, 1) := by decide +kernel
theorem dX12_begins_10 : decode cX12_begins 10 = .ok (.getfield 61, 3) := by decide +kernel
theorem dX12_begins_13 : decode cX12_begins 13 = .ok (.aload_n 0, 1) := by decide +kernel
theorem dX12_begins_14 : decode cX12_begins 14 = .ok (.getfield 310, 3) := by decide +kernel
theorem dX12_begins_17 : decode cX12_begins 17 = .ok (.iload_n 1, 1) := by decide +kernel
theorem dX12_begins_18 : decode cX12_begins 18 = .ok (.iastore, 1) := by decide +kernel
theorem dX12_begins_19 : decode cX12_begins 19 = .ok (.aload_n 0, 1) := by decide +kernel
theorem dX12_begins_20 : decode cX12_begins 20 = .ok (.dup, 1) := by decide +kernel
theorem dX12_begins_21 : decode cX12_begins 21 = .ok (.getfield 310, 3) := by decide +kernel
theorem dX12_begins_24 : decode cX12_begins 24 = .ok (.iconst 1, 1) := by decide +kernel
theorem dX12_begins_25 : decode cX12_begins 25 = .ok (.iadd, 1) := by decide +kernel
theorem dX12_begins_26 : decode cX12_begins 26 = .ok (.putfield 310, 3) := by decide +kernel
theorem dX12_begins_29 : decode cX12_begins 29 = .ok (.return_, 1) := by decide +kernel
def f_X12_begins_b19 (σ : St) : Option St := some (sI σ 636 0 ((σ.1 636 0) + (1 : Int32)))
def f_X12_begins (σ : St) (p1 : Int32) : Option St := if (24 : Int32) ≤ σ.1 636 0 then (f_X12_begins_b19 σ) else (chk (σ.1 636 0 < 0 ∨ 24 ≤ (σ.1 636 0).toNatClampNeg) (bnd (sA σ 635 0 (upd (σ.2.2.1 635 0) (σ.1 636 0).toNatClampNeg p1)) (fun σ3 => f_X12_begins_b19 σ3)))
set_option maxHeartbeats 4000000 in
set_option maxRecDepth 100000 in
theorem w_X12_begins_b19 {p : Program} {l : Launch} {e : Env} {s : State} {m : MethodId} {args : Array Value} {below : List Frame} {meth : Method} {c : Code} {g : va_G} {ts : ClassId × ClassId × ClassId} {A : Nat → Prop} {Q : State → Prop} {a : Nat → Nat} {σ' : St} (C : FX p s m args meth c RX12 cX12_begins 2 g ts A) (hQ : RetV p l e (rk 0 0) s m args below meth c cX12_begins g (WM ts a) A σ' Q) : ∀ (σ : St) (H : Heap) (locs : List Loc) (ls : Array Slot), f_X12_begins_b19 σ = some σ' → va_P g classes (WM ts a σ) H → va_D A (WM ts a σ) → va_S A s.heap H locs → lv_has ls 2 [(0, .ref (a 0))] → W p l e (rk 0 0) s m args below meth c H locs 0 0 Q (F0 m 19 ls []) := by
  have hx := C.1
  have hb := C.2.1
  have hown := C.2.2.2.1
  have hts := C.2.2.2.2.1
  intro σ H locs ls hf hP hD hS hl
  rw [f_X12_begins_b19] at hf
  refine lv_aload_n hx hb dX12_begins_19 rfl (lv_at hl 0 rfl) ?_
  refine lv_dup hx hb dX12_begins_20 rfl ?_
  refine G_X12_ran C hP q_1108 dX12_begins_21 ?_
  refine lv_iconst (v := 1) hx hb dX12_begins_24 (by decide) ?_
  refine lv_iadd hx hb dX12_begins_25 ?_
  refine S_X12_ran C hP hD hS q_1108 dX12_begins_26 (fun H locs hP hD hS => ?_)
  exact retV hQ hf dX12_begins_29 hP hD hS
set_option maxHeartbeats 4000000 in
set_option maxRecDepth 100000 in
theorem c_X12_begins {l : Launch} {g : va_G} {ts : ClassId × ClassId × ClassId} {a : Nat → Nat} {σ : St} {p1 : Int32} {σ' : St} (hf : f_X12_begins σ p1 = some σ') : ConV l g ts (WM ts a) yX12_begins cX12_begins 2 none (rk 0 0) σ [.ref (a 0), .int p1] σ' := by
  refine ConV_mk rfl rfl (by decide) (Nat.le_of_ble_eq_true rfl) ?_
  intro p e s m below meth c A Q ls C hQ hP hD hS hl
  have C : FX p s m _ meth c RX12 cX12_begins 2 g ts A := C
  have hx := C.1
  have hb := C.2.1
  have hown := C.2.2.2.1
  have hts := C.2.2.2.2.1
  have hl : lv_has ls 2 [(0, .ref (a 0)), (1, .int p1)] := hl
  rw [f_X12_begins] at hf
  refine lv_aload_n hx hb dX12_begins_0 rfl (lv_at hl 0 rfl) ?_
  refine G_X12_ran C hP q_1108 dX12_begins_1 ?_
  refine lv_bipush (v := 24) hx hb dX12_begins_4 (by decide) ?_
  refine lv_icmp_ge (tgt := 19) hx hb dX12_begins_6 (by decide) (fun c1 => ?_) (fun c1 => ?_)
  · replace hf := ipos c1 hf
    exact w_X12_begins_b19 C hQ _ _ _ _ hf hP hD hS (lv_sub hl [0] rfl)
  · replace hf := ineg c1 hf
    refine lv_aload_n hx hb dX12_begins_9 rfl (lv_at hl 0 rfl) ?_
    refine G_X12_trace C hP q_1107 dX12_begins_10 ?_
    refine lv_aload_n hx hb dX12_begins_13 rfl (lv_at hl 0 rfl) ?_
    refine G_X12_ran C hP q_1108 dX12_begins_14 ?_
    refine lv_iload_n hx hb dX12_begins_17 rfl (lv_at hl 1 rfl) ?_
    obtain ⟨h2, hf⟩ := chk_some hf
    refine AS_X12_trace C hP hD hS h2 dX12_begins_18 (fun H locs hP hD hS => ?_)
    refine nameS hP hD hf (fun σ3 hP hD hf => ?_)
    exact w_X12_begins_b19 C hQ _ _ _ _ hf hP hD hS (lv_sub hl [0] rfl)
