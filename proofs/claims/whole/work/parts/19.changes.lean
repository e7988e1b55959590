theorem mv_X0_enter : MV yX0_enter cX0_enter 6 none 4 := ⟨q_493, q_494, q_67, q_495, by decide +kernel, by decide +kernel, by decide +kernel⟩
theorem mv_X0_stepBack : MV yX0_stepBack cX0_stepBack 1 (some .int) 0 := ⟨q_968, q_969, q_67, q_970, by decide +kernel, by decide +kernel, by decide +kernel⟩
theorem mv_X0_stepOn : MV yX0_stepOn cX0_stepOn 1 (some .int) 0 := ⟨q_976, q_977, q_67, q_978, by decide +kernel, by decide +kernel, by decide +kernel⟩
theorem mv_X10_has : MV yX10_has cX10_has 2 (some .boolean) 1 := ⟨q_992, q_993, q_69, q_994, by decide +kernel, by decide +kernel, by decide +kernel⟩
theorem mv_X10_make : MV yX10_make cX10_make 2 (some .int) 1 := ⟨q_984, q_985, q_69, q_986, by decide +kernel, by decide +kernel, by decide +kernel⟩
theorem dX0_enter_0 : decode cX0_enter 0 = .ok (.aload_n 0, 1) := by decide +kernel
theorem dX0_enter_1 : decode cX0_enter 1 = .ok (.getfield 22, 3) := by decide +kernel
theorem dX0_enter_4 : decode cX0_enter 4 = .ok (.bipush 40, 2) := by decide +kernel
theorem dX0_enter_6 : decode cX0_enter 6 = .ok (.if_icmp .ne 26, 3) := by decide +kernel
theorem dX0_enter_9 : decode cX0_enter 9 = .ok (.aload_n 0, 1) := by decide +kernel
theorem dX0_enter_10 : decode cX0_enter 10 = .ok (.aload_n 0, 1) := by decide +kernel
theorem dX0_enter_11 : decode cX0_enter 11 = .ok (.getfield 26, 3) := by decide +kernel
theorem dX0_enter_14 : decode cX0_enter 14 = .ok (.iconst 1, 1) := by decide +kernel
theorem dX0_enter_15 : decode cX0_enter 15 = .ok (.iadd, 1) := by decide +kernel
theorem dX0_enter_16 : decode cX0_enter 16 = .ok (.bipush 40, 2) := by decide +kernel
theorem dX0_enter_18 : decode cX0_enter 18 = .ok (.irem, 1) := by decide +kernel
theorem dX0_enter_19 : decode cX0_enter 19 = .ok (.putfield 26, 3) := by decide +kernel
theorem dX0_enter_22 : decode cX0_enter 22 = .ok (.aload_n 0, 1) := by decide +kernel
theorem dX0_enter_23 : decode cX0_enter 23 = .ok (.dup, 1) := by decide +kernel
theorem dX0_enter_24 : decode cX0_enter 24 = .ok (.getfield 22, 3) := by decide +kernel
theorem dX0_enter_27 : decode cX0_enter 27 = .ok (.iconst 1, 1) := by decide +kernel
theorem dX0_enter_28 : decode cX0_enter 28 = .ok (.isub, 1) := by decide +kernel
theorem dX0_enter_29 : decode cX0_enter 29 = .ok (.putfield 22, 3) := by decide +kernel
theorem dX0_enter_32 : decode cX0_enter 32 = .ok (.aload_n 0, 1) := by decide +kernel
theorem dX0_enter_33 : decode cX0_enter 33 = .ok (.getfield 26, 3) := by decide +kernel
theorem dX0_enter_36 : decode cX0_enter 36 = .ok (.aload_n 0, 1) := by decide +kernel
theorem dX0_enter_37 : decode cX0_enter 37 = .ok (.getfield 22, 3) := by decide +kernel
theorem dX0_enter_40 : decode cX0_enter 40 = .ok (.iadd, 1) := by decide +kernel
theorem dX0_enter_41 : decode cX0_enter 41 = .ok (.bipush 40, 2) := by decide +kernel
theorem dX0_enter_43 : decode cX0_enter 43 = .ok (.irem, 1) := by decide +kernel
theorem dX0_enter_44 : decode cX0_enter 44 = .ok (.istore 5, 2) := by decide +kernel
theorem dX0_enter_46 : decode cX0_enter 46 = .ok (.aload_n 0, 1) := by decide +kernel
theorem dX0_enter_47 : decode cX0_enter 47 = .ok (.getfield 9, 3) := by decide +kernel
theorem dX0_enter_50 : decode cX0_enter 50 = .ok (.iload 5, 2) := by decide +kernel
theorem dX0_enter_52 : decode cX0_enter 52 = .ok (.iload_n 1, 1) := by decide +kernel
theorem dX0_enter_53 : decode cX0_enter 53 = .ok (.iastore, 1) := by decide +kernel
theorem dX0_enter_54 : decode cX0_enter 54 = .ok (.aload_n 0, 1) := by decide +kernel
theorem dX0_enter_55 : decode cX0_enter 55 = .ok (.getfield 13, 3) := by decide +kernel
theorem dX0_enter_58 : decode cX0_enter 58 = .ok (.iload 5, 2) := by decide +kernel
theorem dX0_enter_60 : decode cX0_enter 60 = .ok (.iload_n 2, 1) := by decide +kernel
theorem dX0_enter_61 : decode cX0_enter 61 = .ok (.iastore, 1) := by decide +kernel
theorem dX0_enter_62 : decode cX0_enter 62 = .ok (.aload_n 0, 1) := by decide +kernel
theorem dX0_enter_63 : decode cX0_enter 63 = .ok (.getfield 16, 3) := by decide +kernel
theorem dX0_enter_66 : decode cX0_enter 66 = .ok (.iload 5, 2) := by decide +kernel
theorem dX0_enter_68 : decode cX0_enter 68 = .ok (.iload_n 3, 1) := by decide +kernel
theorem dX0_enter_69 : decode cX0_enter 69 = .ok (.iastore, 1) := by decide +kernel
theorem dX0_enter_70 : decode cX0_enter 70 = .ok (.aload_n 0, 1) := by decide +kernel
theorem dX0_enter_71 : decode cX0_enter 71 = .ok (.getfield 19, 3) := by decide +kernel
theorem dX0_enter_74 : decode cX0_enter 74 = .ok (.iload 5, 2) := by decide +kernel
theorem dX0_enter_76 : decode cX0_enter 76 = .ok (.iload 4, 2) := by decide +kernel
theorem dX0_enter_78 : decode cX0_enter 78 = .ok (.iastore, 1) := by decide +kernel
theorem dX0_enter_79 : decode cX0_enter 79 = .ok (.aload_n 0, 1) := by decide +kernel
theorem dX0_enter_80 : decode cX0_enter 80 = .ok (.dup, 1) := by decide +kernel
theorem dX0_enter_81 : decode cX0_enter 81 = .ok (.getfield 22, 3) := by decide +kernel
theorem dX0_enter_84 : decode cX0_enter 84 = .ok (.iconst 1, 1) := by decide +kernel
theorem dX0_enter_85 : decode cX0_enter 85 = .ok (.iadd, 1) := by decide +kernel
theorem dX0_enter_86 : decode cX0_enter 86 = .ok (.putfield 22, 3) := by decide +kernel
theorem dX0_enter_89 : decode cX0_enter 89 = .ok (.aload_n 0, 1) := by decide +kernel
theorem dX0_enter_90 : decode cX0_enter 90 = .ok (.iconst 0, 1) := by decide +kernel
theorem dX0_enter_91 : decode cX0_enter 91 = .ok (.putfield 29, 3) := by decide +kernel
theorem dX0_enter_94 : decode cX0_enter 94 = .ok (.return_, 1) := by decide +kernel
def f_X0_enter_b32 (σ : St) (x1 : Int32) (x2 : Int32) (x3 : Int32) (x4 : Int32) : Option St := bnd (((σ.1 6 0) + (σ.1 4 0)) - ((σ.1 6 0) + (σ.1 4 0)) / (40 : Int32) * (40 : Int32)) (fun v3 => chk (v3 < 0 ∨ 40 ≤ v3.toNatClampNeg) (chk (v3 < 0 ∨ 40 ≤ v3.toNatClampNeg) (bnd (sA (sA σ 0 0 (upd (σ.2.2.1 0 0) v3.toNatClampNeg x1)) 1 0 (upd ((sA σ 0 0 (upd (σ.2.2.1 0 0) v3.toNatClampNeg x1)).2.2.1 1 0) v3.toNatClampNeg x2)) (fun σ6 => chk (v3 < 0 ∨ 40 ≤ v3.toNatClampNeg) (chk (v3 < 0 ∨ 40 ≤ v3.toNatClampNeg) (bnd (sA (sA σ6 2 0 (upd (σ6.2.2.1 2 0) v3.toNatClampNeg x3)) 3 0 (upd ((sA σ6 2 0 (upd (σ6.2.2.1 2 0) v3.toNatClampNeg x3)).2.2.1 3 0) v3.toNatClampNeg x4)) (fun σ9 => bnd (sI (sI σ9 4 0 ((σ9.1 4 0) + (1 : Int32))) 5 0 (0 : Int32)) (fun σ10 => some σ10))))))))
def f_X0_enter (σ : St) (p1 : Int32) (p2 : Int32) (p3 : Int32) (p4 : Int32) : Option St := if σ.1 4 0 = (40 : Int32) then (bnd (sI σ 6 0 (((σ.1 6 0) + (1 : Int32)) - ((σ.1 6 0) + (1 : Int32)) / (40 : Int32) * (40 : Int32))) (fun σ2 => f_X0_enter_b32 (sI σ2 4 0 ((σ2.1 4 0) - (1 : Int32))) p1 p2 p3 p4)) else (f_X0_enter_b32 σ p1 p2 p3 p4)
set_option maxHeartbeats 4000000 in
set_option maxRecDepth 100000 in
theorem w_X0_enter_b32 {p : Program} {l : Launch} {e : Env} {s : State} {m : MethodId} {args : Array Value} {below : List Frame} {meth : Method} {c : Code} {g : va_G} {ts : ClassId × ClassId × ClassId} {A : Nat → Prop} {Q : State → Prop} {a : Nat → Nat} {σ' : St} (C : FX p s m args meth c RX0 cX0_enter 6 g ts A) (hQ : RetV p l e (rk 0 0) s m args below meth c cX0_enter g (WC ts a) A σ' Q) : ∀ (σ : St) (x1 : Int32) (x2 : Int32) (x3 : Int32) (x4 : Int32) (H : Heap) (locs : List Loc) (ls : Array Slot), f_X0_enter_b32 σ x1 x2 x3 x4 = some σ' → va_P g classes (WC ts a σ) H → va_D A (WC ts a σ) → va_S A s.heap H locs → lv_has ls 6 [(0, .ref (a 22)), (1, .int x1), (2, .int x2), (3, .int x3), (4, .int x4)] → W p l e (rk 0 0) s m args below meth c H locs 0 0 Q (F0 m 32 ls []) := by
  have hx := C.1
  have hb := C.2.1
  have hown := C.2.2.2.1
  have hts := C.2.2.2.2.1
  intro σ x1 x2 x3 x4 H locs ls hf hP hD hS hl
  rw [f_X0_enter_b32] at hf
  refine lv_aload_n hx hb dX0_enter_32 rfl (lv_at hl 0 rfl) ?_
  refine G_X0_first C hP q_277 dX0_enter_33 ?_
  refine lv_aload_n hx hb dX0_enter_36 rfl (lv_at hl 0 rfl) ?_
  refine G_X0_done C hP q_273 dX0_enter_37 ?_
  refine lv_iadd hx hb dX0_enter_40 ?_
  refine lv_bipush (v := 40) hx hb dX0_enter_41 (by decide) ?_
  refine lv_irem hx hb dX0_enter_43 (by decide) ?_
  refine lv_topi (fun v3 ev3 => ?_)
  replace hf := bnd_at ev3 hf
  refine lv_istore (lv' := [(5, .int v3), (0, .ref (a 22)), (1, .int x1), (2, .int x2), (3, .int x3), (4, .int x4)]) hx hb dX0_enter_44 hl (by decide) rfl (fun ls hl => ?_)
  refine lv_aload_n hx hb dX0_enter_46 rfl (lv_at hl 1 rfl) ?_
  refine G_X0_numbers C hP q_265 dX0_enter_47 ?_
  refine lv_iload hx hb dX0_enter_50 (lv_at hl 0 rfl) ?_
  refine lv_iload_n hx hb dX0_enter_52 rfl (lv_at hl 2 rfl) ?_
  obtain ⟨h4, hf⟩ := chk_some hf
  refine AS_X0_numbers C hP hD hS h4 dX0_enter_53 (fun H locs hP hD hS => ?_)
  refine lv_aload_n hx hb dX0_enter_54 rfl (lv_at hl 1 rfl) ?_
  refine G_X0_kinds C hP q_267 dX0_enter_55 ?_
  refine lv_iload hx hb dX0_enter_58 (lv_at hl 0 rfl) ?_
  refine lv_iload_n hx hb dX0_enter_60 rfl (lv_at hl 3 rfl) ?_
  obtain ⟨h5, hf⟩ := chk_some hf
  refine AS_X0_kinds C hP hD hS h5 dX0_enter_61 (fun H locs hP hD hS => ?_)
  refine nameS hP hD hf (fun σ6 hP hD hf => ?_)
  refine lv_aload_n hx hb dX0_enter_62 rfl (lv_at hl 1 rfl) ?_
  refine G_X0_before C hP q_269 dX0_enter_63 ?_
  refine lv_iload hx hb dX0_enter_66 (lv_at hl 0 rfl) ?_
  refine lv_iload_n hx hb dX0_enter_68 rfl (lv_at hl 4 rfl) ?_
  obtain ⟨h7, hf⟩ := chk_some hf
  refine AS_X0_before C hP hD hS h7 dX0_enter_69 (fun H locs hP hD hS => ?_)
  refine lv_aload_n hx hb dX0_enter_70 rfl (lv_at hl 1 rfl) ?_
  refine G_X0_behind C hP q_271 dX0_enter_71 ?_
  refine lv_iload hx hb dX0_enter_74 (lv_at hl 0 rfl) ?_
  refine lv_iload hx hb dX0_enter_76 (lv_at hl 5 rfl) ?_
  obtain ⟨h8, hf⟩ := chk_some hf
  refine AS_X0_behind C hP hD hS h8 dX0_enter_78 (fun H locs hP hD hS => ?_)
  refine nameS hP hD hf (fun σ9 hP hD hf => ?_)
  refine lv_aload_n hx hb dX0_enter_79 rfl (lv_at hl 1 rfl) ?_
  refine lv_dup hx hb dX0_enter_80 rfl ?_
  refine G_X0_done C hP q_273 dX0_enter_81 ?_
  refine lv_iconst (v := 1) hx hb dX0_enter_84 (by decide) ?_
  refine lv_iadd hx hb dX0_enter_85 ?_
  refine S_X0_done C hP hD hS q_273 dX0_enter_86 (fun H locs hP hD hS => ?_)
  refine lv_aload_n hx hb dX0_enter_89 rfl (lv_at hl 1 rfl) ?_
  refine lv_iconst (v := 0) hx hb dX0_enter_90 (by decide) ?_
  refine S_X0_undone C hP hD hS q_275 dX0_enter_91 (fun H locs hP hD hS => ?_)
  refine nameS hP hD hf (fun σ10 hP hD hf => ?_)
  exact retV hQ hf dX0_enter_94 hP hD hS
set_option maxHeartbeats 4000000 in
set_option maxRecDepth 100000 in
theorem c_X0_enter {l : Launch} {g : va_G} {ts : ClassId × ClassId × ClassId} {a : Nat → Nat} {σ : St} {p1 : Int32} {p2 : Int32} {p3 : Int32} {p4 : Int32} {σ' : St} (hf : f_X0_enter σ p1 p2 p3 p4 = some σ') : ConV l g ts (WC ts a) yX0_enter cX0_enter 6 none (rk 0 0) σ [.ref (a 22), .int p1, .int p2, .int p3, .int p4] σ' := by
  refine ConV_mk rfl rfl (by decide) (Nat.le_of_ble_eq_true rfl) ?_
  intro p e s m below meth c A Q ls C hQ hP hD hS hl
  have C : FX p s m _ meth c RX0 cX0_enter 6 g ts A := C
  have hx := C.1
  have hb := C.2.1
  have hown := C.2.2.2.1
  have hts := C.2.2.2.2.1
  have hl : lv_has ls 6 [(0, .ref (a 22)), (1, .int p1), (2, .int p2), (3, .int p3), (4, .int p4)] := hl
  rw [f_X0_enter] at hf
  refine lv_aload_n hx hb dX0_enter_0 rfl (lv_at hl 0 rfl) ?_
  refine G_X0_done C hP q_273 dX0_enter_1 ?_
  refine lv_bipush (v := 40) hx hb dX0_enter_4 (by decide) ?_
  refine lv_icmp_ne (tgt := 32) hx hb dX0_enter_6 (by decide) (fun c1 => ?_) (fun c1 => ?_)
  · replace hf := ineg c1 hf
    exact w_X0_enter_b32 C hQ _ _ _ _ _ _ _ _ hf hP hD hS (lv_sub hl [0, 1, 2, 3, 4] rfl)
  · replace hf := ipos c1 hf
    refine lv_aload_n hx hb dX0_enter_9 rfl (lv_at hl 0 rfl) ?_
    refine lv_aload_n hx hb dX0_enter_10 rfl (lv_at hl 0 rfl) ?_
    refine G_X0_first C hP q_277 dX0_enter_11 ?_
    refine lv_iconst (v := 1) hx hb dX0_enter_14 (by decide) ?_
    refine lv_iadd hx hb dX0_enter_15 ?_
    refine lv_bipush (v := 40) hx hb dX0_enter_16 (by decide) ?_
    refine lv_irem hx hb dX0_enter_18 (by decide) ?_
    refine S_X0_first C hP hD hS q_277 dX0_enter_19 (fun H locs hP hD hS => ?_)
    refine nameS hP hD hf (fun σ2 hP hD hf => ?_)
    refine lv_aload_n hx hb dX0_enter_22 rfl (lv_at hl 0 rfl) ?_
    refine lv_dup hx hb dX0_enter_23 rfl ?_
    refine G_X0_done C hP q_273 dX0_enter_24 ?_
    refine lv_iconst (v := 1) hx hb dX0_enter_27 (by decide) ?_
    refine lv_isub hx hb dX0_enter_28 ?_
    refine S_X0_done C hP hD hS q_273 dX0_enter_29 (fun H locs hP hD hS => ?_)
    exact w_X0_enter_b32 C hQ _ _ _ _ _ _ _ _ hf hP hD hS (lv_sub hl [0, 1, 2, 3, 4] rfl)
theorem dX0_stepBack_0 : decode cX0_stepBack 0 = .ok (.aload_n 0, 1) := by decide +kernel
theorem dX0_stepBack_1 : decode cX0_stepBack 1 = .ok (.getfield 22, 3) := by decide +kernel
theorem dX0_stepBack_4 : decode cX0_stepBack 4 = .ok (.ifCond .ne 5, 3) := by decide +kernel
theorem dX0_stepBack_7 : decode cX0_stepBack 7 = .ok (.iconst (-1), 1) := by decide +kernel
theorem dX0_stepBack_8 : decode cX0_stepBack 8 = .ok (.ireturn, 1) := by decide +kernel
theorem dX0_stepBack_9 : decode cX0_stepBack 9 = .ok (.aload_n 0, 1) := by decide +kernel
theorem dX0_stepBack_10 : decode cX0_stepBack 10 = .ok (.dup, 1) := by decide +kernel
theorem dX0_stepBack_11 : decode cX0_stepBack 11 = .ok (.getfield 22, 3) := by decide +kernel
theorem dX0_stepBack_14 : decode cX0_stepBack 14 = .ok (.iconst 1, 1) := by decide +kernel
theorem dX0_stepBack_15 : decode cX0_stepBack 15 = .ok (.isub, 1) := by decide +kernel
theorem dX0_stepBack_16 : decode cX0_stepBack 16 = .ok (.putfield 22, 3) := by decide +kernel
theorem dX0_stepBack_19 : decode cX0_stepBack 19 = .ok (.aload_n 0, 1) := by decide +kernel
theorem dX0_stepBack_20 : decode cX0_stepBack 20 = .ok (.dup, 1) := by decide +kernel
theorem dX0_stepBack_21 : decode cX0_stepBack 21 = .ok (.getfield 29, 3) := by decide +kernel
theorem dX0_stepBack_24 : decode cX0_stepBack 24 = .ok (.iconst 1, 1) := by decide +kernel
theorem dX0_stepBack_25 : decode cX0_stepBack 25 = .ok (.iadd, 1) := by decide +kernel
theorem dX0_stepBack_26 : decode cX0_stepBack 26 = .ok (.putfield 29, 3) := by decide +kernel
theorem dX0_stepBack_29 : decode cX0_stepBack 29 = .ok (.aload_n 0, 1) := by decide +kernel
theorem dX0_stepBack_30 : decode cX0_stepBack 30 = .ok (.getfield 26, 3) := by decide +kernel
theorem dX0_stepBack_33 : decode cX0_stepBack 33 = .ok (.aload_n 0, 1) := by decide +kernel
theorem dX0_stepBack_34 : decode cX0_stepBack 34 = .ok (.getfield 22, 3) := by decide +kernel
theorem dX0_stepBack_37 : decode cX0_stepBack 37 = .ok (.iadd, 1) := by decide +kernel
theorem dX0_stepBack_38 : decode cX0_stepBack 38 = .ok (.bipush 40, 2) := by decide +kernel
theorem dX0_stepBack_40 : decode cX0_stepBack 40 = .ok (.irem, 1) := by decide +kernel
theorem dX0_stepBack_41 : decode cX0_stepBack 41 = .ok (.ireturn, 1) := by decide +kernel
def f_X0_stepBack (σ : St) : Option (Int32 × St) := if σ.1 4 0 = 0 then (some ((-1 : Int32), σ)) else (bnd (sI (sI σ 4 0 ((σ.1 4 0) - (1 : Int32))) 5 0 (((sI σ 4 0 ((σ.1 4 0) - (1 : Int32))).1 5 0) + (1 : Int32))) (fun σ2 => some (((σ2.1 6 0) + (σ2.1 4 0)) - ((σ2.1 6 0) + (σ2.1 4 0)) / (40 : Int32) * (40 : Int32), σ2)))
set_option maxHeartbeats 4000000 in
set_option maxRecDepth 100000 in
theorem c_X0_stepBack {l : Launch} {g : va_G} {ts : ClassId × ClassId × ClassId} {a : Nat → Nat} {σ : St} {r : Int32} {σ' : St} (hf : f_X0_stepBack σ = some (r, σ')) : ConI l g ts (WC ts a) yX0_stepBack cX0_stepBack 1 (some .int) (rk 0 0) σ [.ref (a 22)] r σ' := by
  refine ConI_mk .int rfl rfl rfl rfl (by decide) (Nat.le_of_ble_eq_true rfl) ?_
  intro p e s m below meth c A Q ls C hQ hP hD hS hl
  have C : FX p s m _ meth c RX0 cX0_stepBack 1 g ts A := C
  have hx := C.1
  have hb := C.2.1
  have hown := C.2.2.2.1
  have hts := C.2.2.2.2.1
  have hl : lv_has ls 1 [(0, .ref (a 22))] := hl
  rw [f_X0_stepBack] at hf
  refine lv_aload_n hx hb dX0_stepBack_0 rfl (lv_at hl 0 rfl) ?_
  refine G_X0_done C hP q_273 dX0_stepBack_1 ?_
  refine lv_if_ne (tgt := 9) hx hb dX0_stepBack_4 (by decide) (fun c1 => ?_) (fun c1 => ?_)
  · replace hf := ineg c1 hf
    refine lv_aload_n hx hb dX0_stepBack_9 rfl (lv_at hl 0 rfl) ?_
    refine lv_dup hx hb dX0_stepBack_10 rfl ?_
    refine G_X0_done C hP q_273 dX0_stepBack_11 ?_
    refine lv_iconst (v := 1) hx hb dX0_stepBack_14 (by decide) ?_
    refine lv_isub hx hb dX0_stepBack_15 ?_
    refine S_X0_done C hP hD hS q_273 dX0_stepBack_16 (fun H locs hP hD hS => ?_)
    refine lv_aload_n hx hb dX0_stepBack_19 rfl (lv_at hl 0 rfl) ?_
    refine lv_dup hx hb dX0_stepBack_20 rfl ?_
    refine G_X0_undone C hP q_275 dX0_stepBack_21 ?_
    refine lv_iconst (v := 1) hx hb dX0_stepBack_24 (by decide) ?_
    refine lv_iadd hx hb dX0_stepBack_25 ?_
    refine S_X0_undone C hP hD hS q_275 dX0_stepBack_26 (fun H locs hP hD hS => ?_)
    refine nameS hP hD hf (fun σ2 hP hD hf => ?_)
    refine lv_aload_n hx hb dX0_stepBack_29 rfl (lv_at hl 0 rfl) ?_
    refine G_X0_first C hP q_277 dX0_stepBack_30 ?_
    refine lv_aload_n hx hb dX0_stepBack_33 rfl (lv_at hl 0 rfl) ?_
    refine G_X0_done C hP q_273 dX0_stepBack_34 ?_
    refine lv_iadd hx hb dX0_stepBack_37 ?_
    refine lv_bipush (v := 40) hx hb dX0_stepBack_38 (by decide) ?_
    refine lv_irem hx hb dX0_stepBack_40 (by decide) ?_
    exact retI hQ hf dX0_stepBack_41 hP hD hS
  · replace hf := ipos c1 hf
    refine lv_iconst (v := -1) hx hb dX0_stepBack_7 (by decide) ?_
    exact retI hQ hf dX0_stepBack_8 hP hD hS
theorem dX0_stepOn_0 : decode cX0_stepOn 0 = .ok (.aload_n 0, 1) := by decide +kernel
theorem dX0_stepOn_1 : decode cX0_stepOn 1 = .ok (.getfield 29, 3) := by decide +kernel
theorem dX0_stepOn_4 : decode cX0_stepOn 4 = .ok (.ifCond .ne 5, 3) := by decide +kernel
theorem dX0_stepOn_7 : decode cX0_stepOn 7 = .ok (.iconst (-1), 1) := by decide +kernel
theorem dX0_stepOn_8 : decode cX0_stepOn 8 = .ok (.ireturn, 1) := by decide +kernel
theorem dX0_stepOn_9 : decode cX0_stepOn 9 = .ok (.aload_n 0, 1) := by decide +kernel
theorem dX0_stepOn_10 : decode cX0_stepOn 10 = .ok (.dup, 1) := by decide +kernel
theorem dX0_stepOn_11 : decode cX0_stepOn 11 = .ok (.getfield 29, 3) := by decide +kernel
theorem dX0_stepOn_14 : decode cX0_stepOn 14 = .ok (.iconst 1, 1) := by decide +kernel
theorem dX0_stepOn_15 : decode cX0_stepOn 15 = .ok (.isub, 1) := by decide +kernel
theorem dX0_stepOn_16 : decode cX0_stepOn 16 = .ok (.putfield 29, 3) := by decide +kernel
theorem dX0_stepOn_19 : decode cX0_stepOn 19 = .ok (.aload_n 0, 1) := by decide +kernel
theorem dX0_stepOn_20 : decode cX0_stepOn 20 = .ok (.dup, 1) := by decide +kernel
theorem dX0_stepOn_21 : decode cX0_stepOn 21 = .ok (.getfield 22, 3) := by decide +kernel
theorem dX0_stepOn_24 : decode cX0_stepOn 24 = .ok (.iconst 1, 1) := by decide +kernel
theorem dX0_stepOn_25 : decode cX0_stepOn 25 = .ok (.iadd, 1) := by decide +kernel
theorem dX0_stepOn_26 : decode cX0_stepOn 26 = .ok (.putfield 22, 3) := by decide +kernel
theorem dX0_stepOn_29 : decode cX0_stepOn 29 = .ok (.aload_n 0, 1) := by decide +kernel
theorem dX0_stepOn_30 : decode cX0_stepOn 30 = .ok (.getfield 26, 3) := by decide +kernel
theorem dX0_stepOn_33 : decode cX0_stepOn 33 = .ok (.aload_n 0, 1) := by decide +kernel
theorem dX0_stepOn_34 : decode cX0_stepOn 34 = .ok (.getfield 22, 3) := by decide +kernel
theorem dX0_stepOn_37 : decode cX0_stepOn 37 = .ok (.iadd, 1) := by decide +kernel
theorem dX0_stepOn_38 : decode cX0_stepOn 38 = .ok (.iconst 1, 1) := by decide +kernel
theorem dX0_stepOn_39 : decode cX0_stepOn 39 = .ok (.isub, 1) := by decide +kernel
theorem dX0_stepOn_40 : decode cX0_stepOn 40 = .ok (.bipush 40, 2) := by decide +kernel
theorem dX0_stepOn_42 : decode cX0_stepOn 42 = .ok (.irem, 1) := by decide +kernel
theorem dX0_stepOn_43 : decode cX0_stepOn 43 = .ok (.ireturn, 1) := by decide +kernel
def f_X0_stepOn (σ : St) : Option (Int32 × St) := if σ.1 5 0 = 0 then (some ((-1 : Int32), σ)) else (bnd (sI (sI σ 5 0 ((σ.1 5 0) - (1 : Int32))) 4 0 (((sI σ 5 0 ((σ.1 5 0) - (1 : Int32))).1 4 0) + (1 : Int32))) (fun σ2 => some ((((σ2.1 6 0) + (σ2.1 4 0)) - (1 : Int32)) - (((σ2.1 6 0) + (σ2.1 4 0)) - (1 : Int32)) / (40 : Int32) * (40 : Int32), σ2)))
set_option maxHeartbeats 4000000 in
set_option maxRecDepth 100000 in
theorem c_X0_stepOn {l : Launch} {g : va_G} {ts : ClassId × ClassId × ClassId} {a : Nat → Nat} {σ : St} {r : Int32} {σ' : St} (hf : f_X0_stepOn σ = some (r, σ')) : ConI l g ts (WC ts a) yX0_stepOn cX0_stepOn 1 (some .int) (rk 0 0) σ [.ref (a 22)] r σ' := by
  refine ConI_mk .int rfl rfl rfl rfl (by decide) (Nat.le_of_ble_eq_true rfl) ?_
  intro p e s m below meth c A Q ls C hQ hP hD hS hl
  have C : FX p s m _ meth c RX0 cX0_stepOn 1 g ts A := C
  have hx := C.1
  have hb := C.2.1
  have hown := C.2.2.2.1
  have hts := C.2.2.2.2.1
  have hl : lv_has ls 1 [(0, .ref (a 22))] := hl
  rw [f_X0_stepOn] at hf
  refine lv_aload_n hx hb dX0_stepOn_0 rfl (lv_at hl 0 rfl) ?_
  refine G_X0_undone C hP q_275 dX0_stepOn_1 ?_
  refine lv_if_ne (tgt := 9) hx hb dX0_stepOn_4 (by decide) (fun c1 => ?_) (fun c1 => ?_)
  · replace hf := ineg c1 hf
    refine lv_aload_n hx hb dX0_stepOn_9 rfl (lv_at hl 0 rfl) ?_
    refine lv_dup hx hb dX0_stepOn_10 rfl ?_
    refine G_X0_undone C hP q_275 dX0_stepOn_11 ?_
    refine lv_iconst (v := 1) hx hb dX0_stepOn_14 (by decide) ?_
    refine lv_isub hx hb dX0_stepOn_15 ?_
    refine S_X0_undone C hP hD hS q_275 dX0_stepOn_16 (fun H locs hP hD hS => ?_)
    refine lv_aload_n hx hb dX0_stepOn_19 rfl (lv_at hl 0 rfl) ?_
    refine lv_dup hx hb dX0_stepOn_20 rfl ?_
    refine G_X0_done C hP q_273 dX0_stepOn_21 ?_
    refine lv_iconst (v := 1) hx hb dX0_stepOn_24 (by decide) ?_
    refine lv_iadd hx hb dX0_stepOn_25 ?_
    refine S_X0_done C hP hD hS q_273 dX0_stepOn_26 (fun H locs hP hD hS => ?_)
    refine nameS hP hD hf (fun σ2 hP hD hf => ?_)
    refine lv_aload_n hx hb dX0_stepOn_29 rfl (lv_at hl 0 rfl) ?_
    refine G_X0_first C hP q_277 dX0_stepOn_30 ?_
    refine lv_aload_n hx hb dX0_stepOn_33 rfl (lv_at hl 0 rfl) ?_
    refine G_X0_done C hP q_273 dX0_stepOn_34 ?_
    refine lv_iadd hx hb dX0_stepOn_37 ?_
    refine lv_iconst (v := 1) hx hb dX0_stepOn_38 (by decide) ?_
    refine lv_isub hx hb dX0_stepOn_39 ?_
    refine lv_bipush (v := 40) hx hb dX0_stepOn_40 (by decide) ?_
    refine lv_irem hx hb dX0_stepOn_42 (by decide) ?_
    exact retI hQ hf dX0_stepOn_43 hP hD hS
  · replace hf := ipos c1 hf
    refine lv_iconst (v := -1) hx hb dX0_stepOn_7 (by decide) ?_
    exact retI hQ hf dX0_stepOn_8 hP hD hS
theorem dX10_has_0 : decode cX10_has 0 = .ok (.iload_n 1, 1) := by decide +kernel
theorem dX10_has_1 : decode cX10_has 1 = .ok (.ifCond .lt 15, 3) := by decide +kernel
theorem dX10_has_4 : decode cX10_has 4 = .ok (.iload_n 1, 1) := by decide +kernel
theorem dX10_has_5 : decode cX10_has 5 = .ok (.aload_n 0, 1) := by decide +kernel
theorem dX10_has_6 : decode cX10_has 6 = .ok (.getfield 18, 3) := by decide +kernel
theorem dX10_has_9 : decode cX10_has 9 = .ok (.if_icmp .ge 7, 3) := by decide +kernel
theorem dX10_has_12 : decode cX10_has 12 = .ok (.iconst 1, 1) := by decide +kernel
theorem dX10_has_13 : decode cX10_has 13 = .ok (.goto 4, 3) := by decide +kernel
theorem dX10_has_16 : decode cX10_has 16 = .ok (.iconst 0, 1) := by decide +kernel
theorem dX10_has_17 : decode cX10_has 17 = .ok (.ireturn, 1) := by decide +kernel
def f_X10_has0 (σ : St) (p1 : Int32) : Option (Int32 × St) := if p1 < 0 then (some ((0 : Int32), σ)) else (if σ.1 502 0 ≤ p1 then (some ((0 : Int32), σ)) else (some ((1 : Int32), σ)))
def f_X10_has (σ : St) (p1 : Int32) : Option (Int32 × St) := chkB (f_X10_has0 σ p1)
set_option maxHeartbeats 4000000 in
set_option maxRecDepth 100000 in
theorem c_X10_has {l : Launch} {g : va_G} {ts : ClassId × ClassId × ClassId} {a : Nat → Nat} {σ : St} {p1 : Int32} {r : Int32} {σ' : St} (hf : f_X10_has σ p1 = some (r, σ')) : ConI l g ts (WC ts a) yX10_has cX10_has 2 (some .boolean) (rk 0 0) σ [.ref (a 27), .int p1] r σ' := by
  rw [f_X10_has] at hf
  obtain ⟨hf, hn⟩ := chkB_some hf
  refine ConI_mk .boolean rfl hn rfl rfl (by decide) (Nat.le_of_ble_eq_true rfl) ?_
  intro p e s m below meth c A Q ls C hQ hP hD hS hl
  have C : FX p s m _ meth c RX10 cX10_has 2 g ts A := C
  have hx := C.1
  have hb := C.2.1
  have hown := C.2.2.2.1
  have hts := C.2.2.2.2.1
  have hl : lv_has ls 2 [(0, .ref (a 27)), (1, .int p1)] := hl
  rw [f_X10_has0] at hf
  refine lv_iload_n hx hb dX10_has_0 rfl (lv_at hl 1 rfl) ?_
  refine lv_if_lt (tgt := 16) hx hb dX10_has_1 (by decide) (fun c1 => ?_) (fun c1 => ?_)
  · replace hf := ipos c1 hf
    refine lv_iconst (v := 0) hx hb dX10_has_16 (by decide) ?_
    exact retI hQ hf dX10_has_17 hP hD hS
  · replace hf := ineg c1 hf
    refine lv_iload_n hx hb dX10_has_4 rfl (lv_at hl 1 rfl) ?_
    refine lv_aload_n hx hb dX10_has_5 rfl (lv_at hl 0 rfl) ?_
    refine G_X10_number C hP q_341 dX10_has_6 ?_
    refine lv_icmp_ge (tgt := 16) hx hb dX10_has_9 (by decide) (fun c2 => ?_) (fun c2 => ?_)
    · replace hf := ipos c2 hf
      refine lv_iconst (v := 0) hx hb dX10_has_16 (by decide) ?_
      exact retI hQ hf dX10_has_17 hP hD hS
    · replace hf := ineg c2 hf
      refine lv_iconst (v := 1) hx hb dX10_has_12 (by decide) ?_
      refine lv_goto (tgt := 17) hx hb dX10_has_13 (by decide) ?_
      exact retI hQ hf dX10_has_17 hP hD hS
theorem dX10_make_0 : decode cX10_make 0 = .ok (.aload_n 0, 1) := by decide +kernel
theorem dX10_make_1 : decode cX10_make 1 = .ok (.getfield 11, 3) := by decide +kernel
theorem dX10_make_4 : decode cX10_make 4 = .ok (.aload_n 0, 1) := by decide +kernel
theorem dX10_make_5 : decode cX10_make 5 = .ok (.getfield 18, 3) := by decide +kernel
theorem dX10_make_8 : decode cX10_make 8 = .ok (.iload_n 1, 1) := by decide +kernel
theorem dX10_make_9 : decode cX10_make 9 = .ok (.iastore, 1) := by decide +kernel
theorem dX10_make_10 : decode cX10_make 10 = .ok (.aload_n 0, 1) := by decide +kernel
theorem dX10_make_11 : decode cX10_make 11 = .ok (.dup, 1) := by decide +kernel
theorem dX10_make_12 : decode cX10_make 12 = .ok (.getfield 18, 3) := by decide +kernel
theorem dX10_make_15 : decode cX10_make 15 = .ok (.iconst 1, 1) := by decide +kernel
theorem dX10_make_16 : decode cX10_make 16 = .ok (.iadd, 1) := by decide +kernel
theorem dX10_make_17 : decode cX10_make 17 = .ok (.putfield 18, 3) := by decide +kernel
theorem dX10_make_20 : decode cX10_make 20 = .ok (.aload_n 0, 1) := by decide +kernel
theorem dX10_make_21 : decode cX10_make 21 = .ok (.getfield 18, 3) := by decide +kernel
theorem dX10_make_24 : decode cX10_make 24 = .ok (.iconst 1, 1) := by decide +kernel
theorem dX10_make_25 : decode cX10_make 25 = .ok (.isub, 1) := by decide +kernel
theorem dX10_make_26 : decode cX10_make 26 = .ok (.ireturn, 1) := by decide +kernel
def f_X10_make (σ : St) (p1 : Int32) : Option (Int32 × St) := chk (σ.1 502 0 < 0 ∨ 50 ≤ (σ.1 502 0).toNatClampNeg) (bnd (sA σ 500 0 (upd (σ.2.2.1 500 0) (σ.1 502 0).toNatClampNeg p1)) (fun σ2 => some (((sI σ2 502 0 ((σ2.1 502 0) + (1 : Int32))).1 502 0) - (1 : Int32), sI σ2 502 0 ((σ2.1 502 0) + (1 : Int32)))))
set_option maxHeartbeats 4000000 in
set_option maxRecDepth 100000 in
theorem c_X10_make {l : Launch} {g : va_G} {ts : ClassId × ClassId × ClassId} {a : Nat → Nat} {σ : St} {p1 : Int32} {r : Int32} {σ' : St} (hf : f_X10_make σ p1 = some (r, σ')) : ConI l g ts (WC ts a) yX10_make cX10_make 2 (some .int) (rk 0 0) σ [.ref (a 27), .int p1] r σ' := by
  refine ConI_mk .int rfl rfl rfl rfl (by decide) (Nat.le_of_ble_eq_true rfl) ?_
  intro p e s m below meth c A Q ls C hQ hP hD hS hl
  have C : FX p s m _ meth c RX10 cX10_make 2 g ts A := C
  have hx := C.1
  have hb := C.2.1
  have hown := C.2.2.2.1
  have hts := C.2.2.2.2.1
  have hl : lv_has ls 2 [(0, .ref (a 27)), (1, .int p1)] := hl
  rw [f_X10_make] at hf
  refine lv_aload_n hx hb dX10_make_0 rfl (lv_at hl 0 rfl) ?_
  refine G_X10_kinds C hP q_337 dX10_make_1 ?_
  refine lv_aload_n hx hb dX10_make_4 rfl (lv_at hl 0 rfl) ?_
  refine G_X10_number C hP q_341 dX10_make_5 ?_
  refine lv_iload_n hx hb dX10_make_8 rfl (lv_at hl 1 rfl) ?_
  obtain ⟨h1, hf⟩ := chk_some hf
  refine AS_X10_kinds C hP hD hS h1 dX10_make_9 (fun H locs hP hD hS => ?_)
  refine nameS hP hD hf (fun σ2 hP hD hf => ?_)
  refine lv_aload_n hx hb dX10_make_10 rfl (lv_at hl 0 rfl) ?_
  refine lv_dup hx hb dX10_make_11 rfl ?_
  refine G_X10_number C hP q_341 dX10_make_12 ?_
  refine lv_iconst (v := 1) hx hb dX10_make_15 (by decide) ?_
  refine lv_iadd hx hb dX10_make_16 ?_
  refine S_X10_number C hP hD hS q_341 dX10_make_17 (fun H locs hP hD hS => ?_)
  refine lv_aload_n hx hb dX10_make_20 rfl (lv_at hl 0 rfl) ?_
  refine G_X10_number C hP q_341 dX10_make_21 ?_
  refine lv_iconst (v := 1) hx hb dX10_make_24 (by decide) ?_
  refine lv_isub hx hb dX10_make_25 ?_
  exact retI hQ hf dX10_make_26 hP hD hS
