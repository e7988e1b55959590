theorem mv_X10_perform : MV yX10_perform cX10_perform 8 (some .int) 5 := ⟨q_996, q_997, q_69, q_998, by decide +kernel, by decide +kernel, by decide +kernel⟩
theorem mv_X10_runBody : MV yX10_runBody cX10_runBody 7 (some .int) 5 := ⟨q_1005, q_13, q_69, q_1006, by decide +kernel, by decide +kernel, by decide +kernel⟩
theorem dX10_perform_0 : decode cX10_perform 0 = .ok (.iload 5, 2) := by decide +kernel
theorem dX10_perform_2 : decode cX10_perform 2 = .ok (.bipush 40, 2) := by decide +kernel
theorem dX10_perform_4 : decode cX10_perform 4 = .ok (.if_icmp .le 5, 3) := by decide +kernel
theorem dX10_perform_7 : decode cX10_perform 7 = .ok (.iconst 0, 1) := by decide +kernel
theorem dX10_perform_8 : decode cX10_perform 8 = .ok (.ireturn, 1) := by decide +kernel
theorem dX10_perform_9 : decode cX10_perform 9 = .ok (.iload_n 3, 1) := by decide +kernel
theorem dX10_perform_10 : decode cX10_perform 10 = .ok (.istore 6, 2) := by decide +kernel
theorem dX10_perform_12 : decode cX10_perform 12 = .ok (.iconst 0, 1) := by decide +kernel
theorem dX10_perform_13 : decode cX10_perform 13 = .ok (.istore 7, 2) := by decide +kernel
theorem dX10_perform_15 : decode cX10_perform 15 = .ok (.iload 7, 2) := by decide +kernel
theorem dX10_perform_17 : decode cX10_perform 17 = .ok (.bipush 8, 2) := by decide +kernel
theorem dX10_perform_19 : decode cX10_perform 19 = .ok (.if_icmp .ge 30, 3) := by decide +kernel
theorem dX10_perform_22 : decode cX10_perform 22 = .ok (.getstatic 25, 3) := by decide +kernel
theorem dX10_perform_25 : decode cX10_perform 25 = .ok (.iload 6, 2) := by decide +kernel
theorem dX10_perform_27 : decode cX10_perform 27 = .ok (.iconst 4, 1) := by decide +kernel
theorem dX10_perform_28 : decode cX10_perform 28 = .ok (.imul, 1) := by decide +kernel
theorem dX10_perform_29 : decode cX10_perform 29 = .ok (.iload_n 2, 1) := by decide +kernel
theorem dX10_perform_30 : decode cX10_perform 30 = .ok (.iadd, 1) := by decide +kernel
theorem dX10_perform_31 : decode cX10_perform 31 = .ok (.iaload, 1) := by decide +kernel
theorem dX10_perform_32 : decode cX10_perform 32 = .ok (.ifCond .ne 17, 3) := by decide +kernel
theorem dX10_perform_35 : decode cX10_perform 35 = .ok (.getstatic 22, 3) := by decide +kernel
theorem dX10_perform_38 : decode cX10_perform 38 = .ok (.iload 6, 2) := by decide +kernel
theorem dX10_perform_40 : decode cX10_perform 40 = .ok (.iaload, 1) := by decide +kernel
theorem dX10_perform_41 : decode cX10_perform 41 = .ok (.istore 6, 2) := by decide +kernel
theorem dX10_perform_43 : decode cX10_perform 43 = .ok (.iinc 7 1, 3) := by decide +kernel
theorem dX10_perform_46 : decode cX10_perform 46 = .ok (.goto (-31), 3) := by decide +kernel
theorem dX10_perform_49 : decode cX10_perform 49 = .ok (.getstatic 25, 3) := by decide +kernel
theorem dX10_perform_52 : decode cX10_perform 52 = .ok (.iload 6, 2) := by decide +kernel
theorem dX10_perform_54 : decode cX10_perform 54 = .ok (.iconst 4, 1) := by decide +kernel
theorem dX10_perform_55 : decode cX10_perform 55 = .ok (.imul, 1) := by decide +kernel
theorem dX10_perform_56 : decode cX10_perform 56 = .ok (.iload_n 2, 1) := by decide +kernel
theorem dX10_perform_57 : decode cX10_perform 57 = .ok (.iadd, 1) := by decide +kernel
theorem dX10_perform_58 : decode cX10_perform 58 = .ok (.iaload, 1) := by decide +kernel
theorem dX10_perform_59 : decode cX10_perform 59 = .ok (.istore 7, 2) := by decide +kernel
theorem dX10_perform_61 : decode cX10_perform 61 = .ok (.aload_n 0, 1) := by decide +kernel
theorem dX10_perform_62 : decode cX10_perform 62 = .ok (.getfield 28, 3) := by decide +kernel
theorem dX10_perform_65 : decode cX10_perform 65 = .ok (.bipush 24, 2) := by decide +kernel
theorem dX10_perform_67 : decode cX10_perform 67 = .ok (.if_icmp .ge 14, 3) := by decide +kernel
theorem dX10_perform_70 : decode cX10_perform 70 = .ok (.aload_n 0, 1) := by decide +kernel
theorem dX10_perform_71 : decode cX10_perform 71 = .ok (.getfield 15, 3) := by decide +kernel
theorem dX10_perform_74 : decode cX10_perform 74 = .ok (.aload_n 0, 1) := by decide +kernel
theorem dX10_perform_75 : decode cX10_perform 75 = .ok (.getfield 28, 3) := by decide +kernel
theorem dX10_perform_78 : decode cX10_perform 78 = .ok (.iload 7, 2) := by decide +kernel
theorem dX10_perform_80 : decode cX10_perform 80 = .ok (.iastore, 1) := by decide +kernel
theorem dX10_perform_81 : decode cX10_perform 81 = .ok (.aload_n 0, 1) := by decide +kernel
theorem dX10_perform_82 : decode cX10_perform 82 = .ok (.dup, 1) := by decide +kernel
theorem dX10_perform_83 : decode cX10_perform 83 = .ok (.getfield 28, 3) := by decide +kernel
theorem dX10_perform_86 : decode cX10_perform 86 = .ok (.iconst 1, 1) := by decide +kernel
theorem dX10_perform_87 : decode cX10_perform 87 = .ok (.iadd, 1) := by decide +kernel
theorem dX10_perform_88 : decode cX10_perform 88 = .ok (.putfield 28, 3) := by decide +kernel
theorem dX10_perform_91 : decode cX10_perform 91 = .ok (.aload_n 0, 1) := by decide +kernel
theorem dX10_perform_92 : decode cX10_perform 92 = .ok (.iload 7, 2) := by decide +kernel
theorem dX10_perform_94 : decode cX10_perform 94 = .ok (.iload_n 1, 1) := by decide +kernel
theorem dX10_perform_95 : decode cX10_perform 95 = .ok (.getstatic 22, 3) := by decide +kernel
theorem dX10_perform_98 : decode cX10_perform 98 = .ok (.iload 6, 2) := by decide +kernel
theorem dX10_perform_100 : decode cX10_perform 100 = .ok (.iaload, 1) := by decide +kernel
theorem dX10_perform_101 : decode cX10_perform 101 = .ok (.iload 4, 2) := by decide +kernel
theorem dX10_perform_103 : decode cX10_perform 103 = .ok (.iload 5, 2) := by decide +kernel
theorem dX10_perform_105 : decode cX10_perform 105 = .ok (.iconst 1, 1) := by decide +kernel
theorem dX10_perform_106 : decode cX10_perform 106 = .ok (.iadd, 1) := by decide +kernel
theorem dX10_perform_107 : decode cX10_perform 107 = .ok (.invokevirtual 31, 3) := by decide +kernel
theorem dX10_perform_110 : decode cX10_perform 110 = .ok (.ireturn, 1) := by decide +kernel
def f_X10_perform_b81 (rc_X10_runBody : St → Int32 → Int32 → Int32 → Int32 → Int32 → Option (Int32 × St)) (σ : St) (x1 : Int32) (x4 : Int32) (x5 : Int32) (x6 : Int32) (x7 : Int32) : Option (Int32 × St) := chk (x6 < 0 ∨ 8 ≤ x6.toNatClampNeg) (bnd2 (rc_X10_runBody (sI σ 503 0 ((σ.1 503 0) + (1 : Int32))) x7 x1 (aboveA x6.toNatClampNeg) x4 (x5 + (1 : Int32))) (fun r19 σ20 => some (r19, σ20)))
def f_X10_perform_b49 (rc_X10_runBody : St → Int32 → Int32 → Int32 → Int32 → Int32 → Option (Int32 × St)) (σ : St) (x1 : Int32) (x2 : Int32) (x4 : Int32) (x5 : Int32) (x6 : Int32) : Option (Int32 × St) := chk ((x6 * (4 : Int32)) + x2 < 0 ∨ 32 ≤ ((x6 * (4 : Int32)) + x2).toNatClampNeg) (bnd (ownA ((x6 * (4 : Int32)) + x2).toNatClampNeg) (fun v12 => if (24 : Int32) ≤ σ.1 503 0 then (f_X10_perform_b81 rc_X10_runBody σ x1 x4 x5 x6 v12) else (chk (σ.1 503 0 < 0 ∨ 24 ≤ (σ.1 503 0).toNatClampNeg) (bnd (sA σ 501 0 (upd (σ.2.2.1 501 0) (σ.1 503 0).toNatClampNeg v12)) (fun σ15 => f_X10_perform_b81 rc_X10_runBody σ15 x1 x4 x5 x6 v12)))))
def f_X10_perform_b15 (rc_X10_runBody : St → Int32 → Int32 → Int32 → Int32 → Int32 → Option (Int32 × St)) : Nat → St → Int32 → Int32 → Int32 → Int32 → Int32 → Int32 → Option (Int32 × St)
  | 0, _, _, _, _, _, _, _ => none
  | n + 1, σ, x1, x2, x4, x5, x6, x7 => if (8 : Int32) ≤ x7 then (f_X10_perform_b49 rc_X10_runBody σ x1 x2 x4 x5 x6) else (chk ((x6 * (4 : Int32)) + x2 < 0 ∨ 32 ≤ ((x6 * (4 : Int32)) + x2).toNatClampNeg) (if ownA ((x6 * (4 : Int32)) + x2).toNatClampNeg = 0 then (chk (x6 < 0 ∨ 8 ≤ x6.toNatClampNeg) (bnd (aboveA x6.toNatClampNeg) (fun v8 => bnd (x7 + 1) (fun v9 => f_X10_perform_b15 rc_X10_runBody n σ x1 x2 x4 x5 v8 v9)))) else (f_X10_perform_b49 rc_X10_runBody σ x1 x2 x4 x5 x6)))
def f_X10_perform1 (rc_X10_runBody : St → Int32 → Int32 → Int32 → Int32 → Int32 → Option (Int32 × St)) (σ : St) (p1 : Int32) (p2 : Int32) (p3 : Int32) (p4 : Int32) (p5 : Int32) : Option (Int32 × St) := if p5 ≤ (40 : Int32) then (f_X10_perform_b15 rc_X10_runBody 256 σ p1 p2 p4 p5 p3 (0 : Int32)) else (some ((0 : Int32), σ))
set_option maxHeartbeats 4000000 in
set_option maxRecDepth 100000 in
theorem w_X10_perform_b81 {p : Program} {l : Launch} {e : Env} {s : State} {m : MethodId} {args : Array Value} {below : List Frame} {meth : Method} {c : Code} {g : va_G} {ts : ClassId × ClassId × ClassId} {A : Nat → Prop} {Q : State → Prop} {a : Nat → Nat} {r : Int32} {σ' : St} {Rf Rl : Nat} {Rf_X10_runBody Rl_X10_runBody : Nat} {rc_X10_runBody : St → Int32 → Int32 → Int32 → Int32 → Int32 → Option (Int32 × St)} (C : FX p s m args meth c RX10 cX10_perform 8 g ts A) (hQ : RetI p l e (rk (Rf + 1) (Rl + 27)) s m args below meth c cX10_perform g (WC ts a) A r σ' Q) (hrc_X10_runBody : (Rf_X10_runBody ≤ Rf ∧ Rl_X10_runBody ≤ Rl) ∧ ∀ (σ : St) (p1 : Int32) (p2 : Int32) (p3 : Int32) (p4 : Int32) (p5 : Int32) (r : Int32) (u : St), rc_X10_runBody σ p1 p2 p3 p4 p5 = some (r, u) → ConI l g ts (WC ts a) yX10_runBody cX10_runBody 7 (some .int) (rk Rf_X10_runBody Rl_X10_runBody) σ [.ref (a 27), .int p1, .int p2, .int p3, .int p4, .int p5] r u) : ∀ (σ : St) (x1 : Int32) (x4 : Int32) (x5 : Int32) (x6 : Int32) (x7 : Int32) (H : Heap) (locs : List Loc) (ls : Array Slot), f_X10_perform_b81 rc_X10_runBody σ x1 x4 x5 x6 x7 = some (r, σ') → va_P g classes (WC ts a σ) H → va_D A (WC ts a σ) → va_S A s.heap H locs → lv_has ls 8 [(0, .ref (a 27)), (1, .int x1), (4, .int x4), (5, .int x5), (6, .int x6), (7, .int x7)] → W p l e (rk (Rf + 1) (Rl + 27)) s m args below meth c H locs 0 0 Q (F0 m 81 ls []) := by
  have hx := C.1
  have hb := C.2.1
  have hown := C.2.2.2.1
  have hts := C.2.2.2.2.1
  intro σ x1 x4 x5 x6 x7 H locs ls hf hP hD hS hl
  rw [f_X10_perform_b81] at hf
  refine lv_aload_n hx hb dX10_perform_81 rfl (lv_at hl 0 rfl) ?_
  refine lv_dup hx hb dX10_perform_82 rfl ?_
  refine G_X10_ran C hP q_343 dX10_perform_83 ?_
  refine lv_iconst (v := 1) hx hb dX10_perform_86 (by decide) ?_
  refine lv_iadd hx hb dX10_perform_87 ?_
  refine S_X10_ran C hP hD hS q_343 dX10_perform_88 (fun H locs hP hD hS => ?_)
  refine lv_aload_n hx hb dX10_perform_91 rfl (lv_at hl 0 rfl) ?_
  refine lv_iload hx hb dX10_perform_92 (lv_at hl 5 rfl) ?_
  refine lv_iload_n hx hb dX10_perform_94 rfl (lv_at hl 1 rfl) ?_
  obtain ⟨t16, hZt16, hTt16⟩ := C.2.2.2.2.2.2.2.2.2.1
  refine va_gets hx hb hZt16 hS hown (hts _ q_1001) (fun _ h => h) dX10_perform_95 ?_
  refine lv_iload hx hb dX10_perform_98 (lv_at hl 4 rfl) ?_
  obtain ⟨h17, hf⟩ := chk_some hf
  refine va_ti hx hb hTt16 hS h17 rfl dX10_perform_100 ?_
  refine lv_iload hx hb dX10_perform_101 (lv_at hl 2 rfl) ?_
  refine lv_iload hx hb dX10_perform_103 (lv_at hl 3 rfl) ?_
  refine lv_iconst (v := 1) hx hb dX10_perform_105 (by decide) ?_
  refine lv_iadd hx hb dX10_perform_106 ?_
  obtain ⟨r19, σ20, h18, hf⟩ := bnd2_some hf
  refine vI [] C hP hD hS (hrc_X10_runBody.2 _ _ _ _ _ _ _ _  h18) mv_X10_runBody q_1003 rv_X10 dX10_perform_107 ⟨by have hz := hrc_X10_runBody.1; show Rf_X10_runBody + 1 ≤ Rf + _; omega, by have hz := hrc_X10_runBody.1; show 8 + (7 + 11) + Rl_X10_runBody ≤ Rl + _; omega⟩ ⟨Nat.zero_le _, Nat.zero_le _⟩ rfl rfl (Nat.le_of_ble_eq_true rfl) hl.1 (fun H locs hP hD hS => ?_)
  exact retI hQ hf dX10_perform_110 hP hD hS
set_option maxHeartbeats 4000000 in
set_option maxRecDepth 100000 in
theorem w_X10_perform_b49 {p : Program} {l : Launch} {e : Env} {s : State} {m : MethodId} {args : Array Value} {below : List Frame} {meth : Method} {c : Code} {g : va_G} {ts : ClassId × ClassId × ClassId} {A : Nat → Prop} {Q : State → Prop} {a : Nat → Nat} {r : Int32} {σ' : St} {Rf Rl : Nat} {Rf_X10_runBody Rl_X10_runBody : Nat} {rc_X10_runBody : St → Int32 → Int32 → Int32 → Int32 → Int32 → Option (Int32 × St)} (C : FX p s m args meth c RX10 cX10_perform 8 g ts A) (hQ : RetI p l e (rk (Rf + 1) (Rl + 27)) s m args below meth c cX10_perform g (WC ts a) A r σ' Q) (hrc_X10_runBody : (Rf_X10_runBody ≤ Rf ∧ Rl_X10_runBody ≤ Rl) ∧ ∀ (σ : St) (p1 : Int32) (p2 : Int32) (p3 : Int32) (p4 : Int32) (p5 : Int32) (r : Int32) (u : St), rc_X10_runBody σ p1 p2 p3 p4 p5 = some (r, u) → ConI l g ts (WC ts a) yX10_runBody cX10_runBody 7 (some .int) (rk Rf_X10_runBody Rl_X10_runBody) σ [.ref (a 27), .int p1, .int p2, .int p3, .int p4, .int p5] r u) : ∀ (σ : St) (x1 : Int32) (x2 : Int32) (x4 : Int32) (x5 : Int32) (x6 : Int32) (H : Heap) (locs : List Loc) (ls : Array Slot), f_X10_perform_b49 rc_X10_runBody σ x1 x2 x4 x5 x6 = some (r, σ') → va_P g classes (WC ts a σ) H → va_D A (WC ts a σ) → va_S A s.heap H locs → lv_has ls 8 [(0, .ref (a 27)), (1, .int x1), (2, .int x2), (4, .int x4), (5, .int x5), (6, .int x6)] → W p l e (rk (Rf + 1) (Rl + 27)) s m args below meth c H locs 0 0 Q (F0 m 49 ls []) := by
  have hx := C.1
  have hb := C.2.1
  have hown := C.2.2.2.1
  have hts := C.2.2.2.2.1
  intro σ x1 x2 x4 x5 x6 H locs ls hf hP hD hS hl
  rw [f_X10_perform_b49] at hf
  obtain ⟨t10, hZt10, hTt10⟩ := C.2.2.2.2.2.2.2.2.2.2.1
  refine va_gets hx hb hZt10 hS hown (hts _ q_999) (fun _ h => h) dX10_perform_49 ?_
  refine lv_iload hx hb dX10_perform_52 (lv_at hl 5 rfl) ?_
  refine lv_iconst (v := 4) hx hb dX10_perform_54 (by decide) ?_
  refine lv_imul hx hb dX10_perform_55 ?_
  refine lv_iload_n hx hb dX10_perform_56 rfl (lv_at hl 2 rfl) ?_
  refine lv_iadd hx hb dX10_perform_57 ?_
  obtain ⟨h11, hf⟩ := chk_some hf
  refine va_ti hx hb hTt10 hS h11 rfl dX10_perform_58 ?_
  refine lv_topi (fun v12 ev12 => ?_)
  replace hf := bnd_at ev12 hf
  refine lv_istore (lv' := [(7, .int v12), (0, .ref (a 27)), (1, .int x1), (2, .int x2), (4, .int x4), (5, .int x5), (6, .int x6)]) hx hb dX10_perform_59 hl (by decide) rfl (fun ls hl => ?_)
  refine lv_aload_n hx hb dX10_perform_61 rfl (lv_at hl 1 rfl) ?_
  refine G_X10_ran C hP q_343 dX10_perform_62 ?_
  refine lv_bipush (v := 24) hx hb dX10_perform_65 (by decide) ?_
  refine lv_icmp_ge (tgt := 81) hx hb dX10_perform_67 (by decide) (fun c13 => ?_) (fun c13 => ?_)
  · replace hf := ipos c13 hf
    exact w_X10_perform_b81 C hQ hrc_X10_runBody _ _ _ _ _ _ _ _ _ hf hP hD hS (lv_sub hl [1, 2, 4, 5, 6, 0] rfl)
  · replace hf := ineg c13 hf
    refine lv_aload_n hx hb dX10_perform_70 rfl (lv_at hl 1 rfl) ?_
    refine G_X10_traced C hP q_339 dX10_perform_71 ?_
    refine lv_aload_n hx hb dX10_perform_74 rfl (lv_at hl 1 rfl) ?_
    refine G_X10_ran C hP q_343 dX10_perform_75 ?_
    refine lv_iload hx hb dX10_perform_78 (lv_at hl 0 rfl) ?_
    obtain ⟨h14, hf⟩ := chk_some hf
    refine AS_X10_traced C hP hD hS h14 dX10_perform_80 (fun H locs hP hD hS => ?_)
    refine nameS hP hD hf (fun σ15 hP hD hf => ?_)
    exact w_X10_perform_b81 C hQ hrc_X10_runBody _ _ _ _ _ _ _ _ _ hf hP hD hS (lv_sub hl [1, 2, 4, 5, 6, 0] rfl)
set_option maxHeartbeats 4000000 in
set_option maxRecDepth 100000 in
theorem w_X10_perform_b15 {p : Program} {l : Launch} {e : Env} {s : State} {m : MethodId} {args : Array Value} {below : List Frame} {meth : Method} {c : Code} {g : va_G} {ts : ClassId × ClassId × ClassId} {A : Nat → Prop} {Q : State → Prop} {a : Nat → Nat} {r : Int32} {σ' : St} {Rf Rl : Nat} {Rf_X10_runBody Rl_X10_runBody : Nat} {rc_X10_runBody : St → Int32 → Int32 → Int32 → Int32 → Int32 → Option (Int32 × St)} (C : FX p s m args meth c RX10 cX10_perform 8 g ts A) (hQ : RetI p l e (rk (Rf + 1) (Rl + 27)) s m args below meth c cX10_perform g (WC ts a) A r σ' Q) (hrc_X10_runBody : (Rf_X10_runBody ≤ Rf ∧ Rl_X10_runBody ≤ Rl) ∧ ∀ (σ : St) (p1 : Int32) (p2 : Int32) (p3 : Int32) (p4 : Int32) (p5 : Int32) (r : Int32) (u : St), rc_X10_runBody σ p1 p2 p3 p4 p5 = some (r, u) → ConI l g ts (WC ts a) yX10_runBody cX10_runBody 7 (some .int) (rk Rf_X10_runBody Rl_X10_runBody) σ [.ref (a 27), .int p1, .int p2, .int p3, .int p4, .int p5] r u) : ∀ (n : Nat) (σ : St) (x1 : Int32) (x2 : Int32) (x4 : Int32) (x5 : Int32) (x6 : Int32) (x7 : Int32) (H : Heap) (locs : List Loc) (ls : Array Slot), f_X10_perform_b15 rc_X10_runBody n σ x1 x2 x4 x5 x6 x7 = some (r, σ') → va_P g classes (WC ts a σ) H → va_D A (WC ts a σ) → va_S A s.heap H locs → lv_has ls 8 [(0, .ref (a 27)), (1, .int x1), (2, .int x2), (4, .int x4), (5, .int x5), (6, .int x6), (7, .int x7)] → W p l e (rk (Rf + 1) (Rl + 27)) s m args below meth c H locs 0 0 Q (F0 m 15 ls []) := by
  have hx := C.1
  have hb := C.2.1
  have hown := C.2.2.2.1
  have hts := C.2.2.2.2.1
  intro n
  induction n with
  | zero =>
    intro σ x1 x2 x4 x5 x6 x7 H locs ls hf
    cases hf
  | succ n ih =>
    intro σ x1 x2 x4 x5 x6 x7 H locs ls hf hP hD hS hl
    rw [f_X10_perform_b15] at hf
    refine lv_iload hx hb dX10_perform_15 (lv_at hl 6 rfl) ?_
    refine lv_bipush (v := 8) hx hb dX10_perform_17 (by decide) ?_
    refine lv_icmp_ge (tgt := 49) hx hb dX10_perform_19 (by decide) (fun c2 => ?_) (fun c2 => ?_)
    · replace hf := ipos c2 hf
      exact w_X10_perform_b49 C hQ hrc_X10_runBody _ _ _ _ _ _ _ _ _ hf hP hD hS (lv_sub hl [0, 1, 2, 3, 4, 5] rfl)
    · replace hf := ineg c2 hf
      obtain ⟨t3, hZt3, hTt3⟩ := C.2.2.2.2.2.2.2.2.2.2.1
      refine va_gets hx hb hZt3 hS hown (hts _ q_999) (fun _ h => h) dX10_perform_22 ?_
      refine lv_iload hx hb dX10_perform_25 (lv_at hl 5 rfl) ?_
      refine lv_iconst (v := 4) hx hb dX10_perform_27 (by decide) ?_
      refine lv_imul hx hb dX10_perform_28 ?_
      refine lv_iload_n hx hb dX10_perform_29 rfl (lv_at hl 2 rfl) ?_
      refine lv_iadd hx hb dX10_perform_30 ?_
      obtain ⟨h4, hf⟩ := chk_some hf
      refine va_ti hx hb hTt3 hS h4 rfl dX10_perform_31 ?_
      refine lv_if_ne (tgt := 49) hx hb dX10_perform_32 (by decide) (fun c5 => ?_) (fun c5 => ?_)
      · replace hf := ineg c5 hf
        exact w_X10_perform_b49 C hQ hrc_X10_runBody _ _ _ _ _ _ _ _ _ hf hP hD hS (lv_sub hl [0, 1, 2, 3, 4, 5] rfl)
      · replace hf := ipos c5 hf
        obtain ⟨t6, hZt6, hTt6⟩ := C.2.2.2.2.2.2.2.2.2.1
        refine va_gets hx hb hZt6 hS hown (hts _ q_1001) (fun _ h => h) dX10_perform_35 ?_
        refine lv_iload hx hb dX10_perform_38 (lv_at hl 5 rfl) ?_
        obtain ⟨h7, hf⟩ := chk_some hf
        refine va_ti hx hb hTt6 hS h7 rfl dX10_perform_40 ?_
        refine lv_topi (fun v8 ev8 => ?_)
        replace hf := bnd_at ev8 hf
        refine lv_istore (lv' := [(6, .int v8), (0, .ref (a 27)), (1, .int x1), (2, .int x2), (4, .int x4), (5, .int x5), (7, .int x7)]) hx hb dX10_perform_41 hl (by decide) rfl (fun ls hl => ?_)
        obtain ⟨v9, ev9⟩ : ∃ z : Int32, z = x7 + 1 := ⟨_, rfl⟩
        replace hf := bnd_at ev9 hf
        refine lv_iinc (v := v9) (lv' := [(7, .int v9), (6, .int v8), (0, .ref (a 27)), (1, .int x1), (2, .int x2), (4, .int x4), (5, .int x5)]) hx hb dX10_perform_43 hl (k := 6) rfl (by rw [ev9]; rfl) (by decide) rfl (fun ls hl => ?_)
        refine lv_goto (tgt := 15) hx hb dX10_perform_46 (by decide) ?_
        exact ih _ _ _ _ _ _ _ _ _ _ hf hP hD hS (lv_sub hl [2, 3, 4, 5, 6, 1, 0] rfl)
set_option maxHeartbeats 4000000 in
set_option maxRecDepth 100000 in
theorem c_X10_perform1 {l : Launch} {g : va_G} {ts : ClassId × ClassId × ClassId} {a : Nat → Nat} {σ : St} {p1 : Int32} {p2 : Int32} {p3 : Int32} {p4 : Int32} {p5 : Int32} {r : Int32} {σ' : St} {Rf Rl : Nat} {Rf_X10_runBody Rl_X10_runBody : Nat} {rc_X10_runBody : St → Int32 → Int32 → Int32 → Int32 → Int32 → Option (Int32 × St)} (hrc_X10_runBody : (Rf_X10_runBody ≤ Rf ∧ Rl_X10_runBody ≤ Rl) ∧ ∀ (σ : St) (p1 : Int32) (p2 : Int32) (p3 : Int32) (p4 : Int32) (p5 : Int32) (r : Int32) (u : St), rc_X10_runBody σ p1 p2 p3 p4 p5 = some (r, u) → ConI l g ts (WC ts a) yX10_runBody cX10_runBody 7 (some .int) (rk Rf_X10_runBody Rl_X10_runBody) σ [.ref (a 27), .int p1, .int p2, .int p3, .int p4, .int p5] r u) (hf : f_X10_perform1 rc_X10_runBody σ p1 p2 p3 p4 p5 = some (r, σ')) : ConI l g ts (WC ts a) yX10_perform cX10_perform 8 (some .int) (rk (Rf + 1) (Rl + 27)) σ [.ref (a 27), .int p1, .int p2, .int p3, .int p4, .int p5] r σ' := by
  refine ConI_mk .int rfl rfl rfl rfl (by decide) (Nat.le_of_ble_eq_true rfl) ?_
  intro p e s m below meth c A Q ls C hQ hP hD hS hl
  have C : FX p s m _ meth c RX10 cX10_perform 8 g ts A := C
  have hx := C.1
  have hb := C.2.1
  have hown := C.2.2.2.1
  have hts := C.2.2.2.2.1
  have hl : lv_has ls 8 [(0, .ref (a 27)), (1, .int p1), (2, .int p2), (3, .int p3), (4, .int p4), (5, .int p5)] := hl
  rw [f_X10_perform1] at hf
  refine lv_iload hx hb dX10_perform_0 (lv_at hl 5 rfl) ?_
  refine lv_bipush (v := 40) hx hb dX10_perform_2 (by decide) ?_
  refine lv_icmp_le (tgt := 9) hx hb dX10_perform_4 (by decide) (fun c1 => ?_) (fun c1 => ?_)
  · replace hf := ipos c1 hf
    refine lv_iload_n hx hb dX10_perform_9 rfl (lv_at hl 3 rfl) ?_
    refine lv_istore (lv' := [(6, .int p3), (0, .ref (a 27)), (1, .int p1), (2, .int p2), (3, .int p3), (4, .int p4), (5, .int p5)]) hx hb dX10_perform_10 hl (by decide) rfl (fun ls hl => ?_)
    refine lv_iconst (v := 0) hx hb dX10_perform_12 (by decide) ?_
    refine lv_istore (lv' := [(7, .int (0 : Int32)), (6, .int p3), (0, .ref (a 27)), (1, .int p1), (2, .int p2), (3, .int p3), (4, .int p4), (5, .int p5)]) hx hb dX10_perform_13 hl (by decide) rfl (fun ls hl => ?_)
    exact w_X10_perform_b15 C hQ hrc_X10_runBody 256 _ _ _ _ _ _ _ _ _ _ hf hP hD hS (lv_sub hl [2, 3, 4, 6, 7, 1, 0] rfl)
  · replace hf := ineg c1 hf
    refine lv_iconst (v := 0) hx hb dX10_perform_7 (by decide) ?_
    exact retI hQ hf dX10_perform_8 hP hD hS
theorem dX10_runBody_0 : decode cX10_runBody 0 = .ok (.aload_n 0, 1) := by decide +kernel
theorem dX10_runBody_1 : decode cX10_runBody 1 = .ok (.getfield 11, 3) := by decide +kernel
theorem dX10_runBody_4 : decode cX10_runBody 4 = .ok (.iload_n 2, 1) := by decide +kernel
theorem dX10_runBody_5 : decode cX10_runBody 5 = .ok (.iaload, 1) := by decide +kernel
theorem dX10_runBody_6 : decode cX10_runBody 6 = .ok (.istore 6, 2) := by decide +kernel
theorem dX10_runBody_8 : decode cX10_runBody 8 = .ok (.iload_n 1, 1) := by decide +kernel
theorem dX10_runBody_9 : decode cX10_runBody 9 = .ok (.lookupswitch 310 #[(1, 115), (2, 120), (10, 145), (11, 160), (20, 165), (30, 179), (40, 192), (41, 206), (50, 220), (60, 244), (70, 258), (80, 272), (81, 296)], 115) := by decide +kernel
theorem dX10_runBody_124 : decode cX10_runBody 124 = .ok (.iload 4, 2) := by decide +kernel
theorem dX10_runBody_126 : decode cX10_runBody 126 = .ok (.iload_n 2, 1) := by decide +kernel
theorem dX10_runBody_127 : decode cX10_runBody 127 = .ok (.iadd, 1) := by decide +kernel
theorem dX10_runBody_128 : decode cX10_runBody 128 = .ok (.ireturn, 1) := by decide +kernel
theorem dX10_runBody_129 : decode cX10_runBody 129 = .ok (.aload_n 0, 1) := by decide +kernel
theorem dX10_runBody_130 : decode cX10_runBody 130 = .ok (.iload_n 2, 1) := by decide +kernel
theorem dX10_runBody_131 : decode cX10_runBody 131 = .ok (.iconst 1, 1) := by decide +kernel
theorem dX10_runBody_132 : decode cX10_runBody 132 = .ok (.iload 6, 2) := by decide +kernel
theorem dX10_runBody_134 : decode cX10_runBody 134 = .ok (.iload 4, 2) := by decide +kernel
theorem dX10_runBody_136 : decode cX10_runBody 136 = .ok (.iload 5, 2) := by decide +kernel
theorem dX10_runBody_138 : decode cX10_runBody 138 = .ok (.invokevirtual 35, 3) := by decide +kernel
theorem dX10_runBody_141 : decode cX10_runBody 141 = .ok (.aload_n 0, 1) := by decide +kernel
theorem dX10_runBody_142 : decode cX10_runBody 142 = .ok (.iload_n 2, 1) := by decide +kernel
theorem dX10_runBody_143 : decode cX10_runBody 143 = .ok (.iconst 2, 1) := by decide +kernel
theorem dX10_runBody_144 : decode cX10_runBody 144 = .ok (.iload 6, 2) := by decide +kernel
theorem dX10_runBody_146 : decode cX10_runBody 146 = .ok (.iconst 1, 1) := by decide +kernel
theorem dX10_runBody_147 : decode cX10_runBody 147 = .ok (.iload 5, 2) := by decide +kernel
theorem dX10_runBody_149 : decode cX10_runBody 149 = .ok (.invokevirtual 35, 3) := by decide +kernel
theorem dX10_runBody_152 : decode cX10_runBody 152 = .ok (.isub, 1) := by decide +kernel
theorem dX10_runBody_153 : decode cX10_runBody 153 = .ok (.ireturn, 1) := by decide +kernel
theorem dX10_runBody_154 : decode cX10_runBody 154 = .ok (.aload_n 0, 1) := by decide +kernel
theorem dX10_runBody_155 : decode cX10_runBody 155 = .ok (.iload_n 2, 1) := by decide +kernel
theorem dX10_runBody_156 : decode cX10_runBody 156 = .ok (.iconst 0, 1) := by decide +kernel
theorem dX10_runBody_157 : decode cX10_runBody 157 = .ok (.iload 6, 2) := by decide +kernel
theorem dX10_runBody_159 : decode cX10_runBody 159 = .ok (.iload 4, 2) := by decide +kernel
theorem dX10_runBody_161 : decode cX10_runBody 161 = .ok (.iload 5, 2) := by decide +kernel
theorem dX10_runBody_163 : decode cX10_runBody 163 = .ok (.invokevirtual 35, 3) := by decide +kernel
theorem dX10_runBody_166 : decode cX10_runBody 166 = .ok (.iconst 2, 1) := by decide +kernel
theorem dX10_runBody_167 : decode cX10_runBody 167 = .ok (.imul, 1) := by decide +kernel
theorem dX10_runBody_168 : decode cX10_runBody 168 = .ok (.ireturn, 1) := by decide +kernel
theorem dX10_runBody_169 : decode cX10_runBody 169 = .ok (.iload 4, 2) := by decide +kernel
theorem dX10_runBody_171 : decode cX10_runBody 171 = .ok (.iload_n 2, 1) := by decide +kernel
theorem dX10_runBody_172 : decode cX10_runBody 172 = .ok (.ixor, 1) := by decide +kernel
theorem dX10_runBody_173 : decode cX10_runBody 173 = .ok (.ireturn, 1) := by decide +kernel
theorem dX10_runBody_174 : decode cX10_runBody 174 = .ok (.aload_n 0, 1) := by decide +kernel
theorem dX10_runBody_175 : decode cX10_runBody 175 = .ok (.iload_n 2, 1) := by decide +kernel
theorem dX10_runBody_176 : decode cX10_runBody 176 = .ok (.iconst 0, 1) := by decide +kernel
theorem dX10_runBody_177 : decode cX10_runBody 177 = .ok (.iload_n 3, 1) := by decide +kernel
theorem dX10_runBody_178 : decode cX10_runBody 178 = .ok (.iload 4, 2) := by decide +kernel
theorem dX10_runBody_180 : decode cX10_runBody 180 = .ok (.iload 5, 2) := by decide +kernel
theorem dX10_runBody_182 : decode cX10_runBody 182 = .ok (.invokevirtual 35, 3) := by decide +kernel
theorem dX10_runBody_185 : decode cX10_runBody 185 = .ok (.iconst 3, 1) := by decide +kernel
theorem dX10_runBody_186 : decode cX10_runBody 186 = .ok (.iadd, 1) := by decide +kernel
theorem dX10_runBody_187 : decode cX10_runBody 187 = .ok (.ireturn, 1) := by decide +kernel
theorem dX10_runBody_188 : decode cX10_runBody 188 = .ok (.aload_n 0, 1) := by decide +kernel
theorem dX10_runBody_189 : decode cX10_runBody 189 = .ok (.iload_n 2, 1) := by decide +kernel
theorem dX10_runBody_190 : decode cX10_runBody 190 = .ok (.iconst 1, 1) := by decide +kernel
theorem dX10_runBody_191 : decode cX10_runBody 191 = .ok (.iload_n 3, 1) := by decide +kernel
theorem dX10_runBody_192 : decode cX10_runBody 192 = .ok (.iload 4, 2) := by decide +kernel
theorem dX10_runBody_194 : decode cX10_runBody 194 = .ok (.iload 5, 2) := by decide +kernel
theorem dX10_runBody_196 : decode cX10_runBody 196 = .ok (.invokevirtual 35, 3) := by decide +kernel
theorem dX10_runBody_199 : decode cX10_runBody 199 = .ok (.ineg, 1) := by decide +kernel
theorem dX10_runBody_200 : decode cX10_runBody 200 = .ok (.ireturn, 1) := by decide +kernel
theorem dX10_runBody_201 : decode cX10_runBody 201 = .ok (.aload_n 0, 1) := by decide +kernel
theorem dX10_runBody_202 : decode cX10_runBody 202 = .ok (.iload_n 2, 1) := by decide +kernel
theorem dX10_runBody_203 : decode cX10_runBody 203 = .ok (.iconst 2, 1) := by decide +kernel
theorem dX10_runBody_204 : decode cX10_runBody 204 = .ok (.iload_n 3, 1) := by decide +kernel
theorem dX10_runBody_205 : decode cX10_runBody 205 = .ok (.iload 4, 2) := by decide +kernel
theorem dX10_runBody_207 : decode cX10_runBody 207 = .ok (.iload 5, 2) := by decide +kernel
theorem dX10_runBody_209 : decode cX10_runBody 209 = .ok (.invokevirtual 35, 3) := by decide +kernel
theorem dX10_runBody_212 : decode cX10_runBody 212 = .ok (.iconst 3, 1) := by decide +kernel
theorem dX10_runBody_213 : decode cX10_runBody 213 = .ok (.imul, 1) := by decide +kernel
theorem dX10_runBody_214 : decode cX10_runBody 214 = .ok (.ireturn, 1) := by decide +kernel
theorem dX10_runBody_215 : decode cX10_runBody 215 = .ok (.aload_n 0, 1) := by decide +kernel
theorem dX10_runBody_216 : decode cX10_runBody 216 = .ok (.iload_n 2, 1) := by decide +kernel
theorem dX10_runBody_217 : decode cX10_runBody 217 = .ok (.iconst 1, 1) := by decide +kernel
theorem dX10_runBody_218 : decode cX10_runBody 218 = .ok (.iload_n 3, 1) := by decide +kernel
theorem dX10_runBody_219 : decode cX10_runBody 219 = .ok (.iload 4, 2) := by decide +kernel
theorem dX10_runBody_221 : decode cX10_runBody 221 = .ok (.iconst 1, 1) := by decide +kernel
theorem dX10_runBody_222 : decode cX10_runBody 222 = .ok (.iadd, 1) := by decide +kernel
theorem dX10_runBody_223 : decode cX10_runBody 223 = .ok (.iload 5, 2) := by decide +kernel
theorem dX10_runBody_225 : decode cX10_runBody 225 = .ok (.invokevirtual 35, 3) := by decide +kernel
theorem dX10_runBody_228 : decode cX10_runBody 228 = .ok (.ireturn, 1) := by decide +kernel
theorem dX10_runBody_229 : decode cX10_runBody 229 = .ok (.aload_n 0, 1) := by decide +kernel
theorem dX10_runBody_230 : decode cX10_runBody 230 = .ok (.iload_n 2, 1) := by decide +kernel
theorem dX10_runBody_231 : decode cX10_runBody 231 = .ok (.iconst 2, 1) := by decide +kernel
theorem dX10_runBody_232 : decode cX10_runBody 232 = .ok (.iload_n 3, 1) := by decide +kernel
theorem dX10_runBody_233 : decode cX10_runBody 233 = .ok (.iload 4, 2) := by decide +kernel
theorem dX10_runBody_235 : decode cX10_runBody 235 = .ok (.iload 5, 2) := by decide +kernel
theorem dX10_runBody_237 : decode cX10_runBody 237 = .ok (.invokevirtual 35, 3) := by decide +kernel
theorem dX10_runBody_240 : decode cX10_runBody 240 = .ok (.aload_n 0, 1) := by decide +kernel
theorem dX10_runBody_241 : decode cX10_runBody 241 = .ok (.iload_n 2, 1) := by decide +kernel
theorem dX10_runBody_242 : decode cX10_runBody 242 = .ok (.iconst 0, 1) := by decide +kernel
theorem dX10_runBody_243 : decode cX10_runBody 243 = .ok (.iload 6, 2) := by decide +kernel
theorem dX10_runBody_245 : decode cX10_runBody 245 = .ok (.iconst 2, 1) := by decide +kernel
theorem dX10_runBody_246 : decode cX10_runBody 246 = .ok (.iload 5, 2) := by decide +kernel
theorem dX10_runBody_248 : decode cX10_runBody 248 = .ok (.invokevirtual 35, 3) := by decide +kernel
theorem dX10_runBody_251 : decode cX10_runBody 251 = .ok (.isub, 1) := by decide +kernel
theorem dX10_runBody_252 : decode cX10_runBody 252 = .ok (.ireturn, 1) := by decide +kernel
theorem dX10_runBody_253 : decode cX10_runBody 253 = .ok (.aload_n 0, 1) := by decide +kernel
theorem dX10_runBody_254 : decode cX10_runBody 254 = .ok (.iload_n 2, 1) := by decide +kernel
theorem dX10_runBody_255 : decode cX10_runBody 255 = .ok (.iconst 3, 1) := by decide +kernel
theorem dX10_runBody_256 : decode cX10_runBody 256 = .ok (.iload_n 3, 1) := by decide +kernel
theorem dX10_runBody_257 : decode cX10_runBody 257 = .ok (.iload 4, 2) := by decide +kernel
theorem dX10_runBody_259 : decode cX10_runBody 259 = .ok (.iload 5, 2) := by decide +kernel
theorem dX10_runBody_261 : decode cX10_runBody 261 = .ok (.invokevirtual 35, 3) := by decide +kernel
theorem dX10_runBody_264 : decode cX10_runBody 264 = .ok (.iconst 5, 1) := by decide +kernel
theorem dX10_runBody_265 : decode cX10_runBody 265 = .ok (.ixor, 1) := by decide +kernel
theorem dX10_runBody_266 : decode cX10_runBody 266 = .ok (.ireturn, 1) := by decide +kernel
theorem dX10_runBody_267 : decode cX10_runBody 267 = .ok (.aload_n 0, 1) := by decide +kernel
theorem dX10_runBody_268 : decode cX10_runBody 268 = .ok (.iload_n 2, 1) := by decide +kernel
theorem dX10_runBody_269 : decode cX10_runBody 269 = .ok (.iconst 0, 1) := by decide +kernel
theorem dX10_runBody_270 : decode cX10_runBody 270 = .ok (.iload_n 3, 1) := by decide +kernel
theorem dX10_runBody_271 : decode cX10_runBody 271 = .ok (.iload 4, 2) := by decide +kernel
theorem dX10_runBody_273 : decode cX10_runBody 273 = .ok (.iload 5, 2) := by decide +kernel
theorem dX10_runBody_275 : decode cX10_runBody 275 = .ok (.invokevirtual 35, 3) := by decide +kernel
theorem dX10_runBody_278 : decode cX10_runBody 278 = .ok (.iconst 2, 1) := by decide +kernel
theorem dX10_runBody_279 : decode cX10_runBody 279 = .ok (.imul, 1) := by decide +kernel
theorem dX10_runBody_280 : decode cX10_runBody 280 = .ok (.ireturn, 1) := by decide +kernel
theorem dX10_runBody_281 : decode cX10_runBody 281 = .ok (.aload_n 0, 1) := by decide +kernel
theorem dX10_runBody_282 : decode cX10_runBody 282 = .ok (.iload_n 2, 1) := by decide +kernel
theorem dX10_runBody_283 : decode cX10_runBody 283 = .ok (.iconst 1, 1) := by decide +kernel
theorem dX10_runBody_284 : decode cX10_runBody 284 = .ok (.iload_n 3, 1) := by decide +kernel
theorem dX10_runBody_285 : decode cX10_runBody 285 = .ok (.iload 4, 2) := by decide +kernel
theorem dX10_runBody_287 : decode cX10_runBody 287 = .ok (.iload 5, 2) := by decide +kernel
theorem dX10_runBody_289 : decode cX10_runBody 289 = .ok (.invokevirtual 35, 3) := by decide +kernel
theorem dX10_runBody_292 : decode cX10_runBody 292 = .ok (.aload_n 0, 1) := by decide +kernel
theorem dX10_runBody_293 : decode cX10_runBody 293 = .ok (.iload_n 2, 1) := by decide +kernel
theorem dX10_runBody_294 : decode cX10_runBody 294 = .ok (.iconst 2, 1) := by decide +kernel
theorem dX10_runBody_295 : decode cX10_runBody 295 = .ok (.iload 6, 2) := by decide +kernel
theorem dX10_runBody_297 : decode cX10_runBody 297 = .ok (.iconst 2, 1) := by decide +kernel
theorem dX10_runBody_298 : decode cX10_runBody 298 = .ok (.iload 5, 2) := by decide +kernel
theorem dX10_runBody_300 : decode cX10_runBody 300 = .ok (.invokevirtual 35, 3) := by decide +kernel
theorem dX10_runBody_303 : decode cX10_runBody 303 = .ok (.iadd, 1) := by decide +kernel
theorem dX10_runBody_304 : decode cX10_runBody 304 = .ok (.ireturn, 1) := by decide +kernel
theorem dX10_runBody_305 : decode cX10_runBody 305 = .ok (.aload_n 0, 1) := by decide +kernel
theorem dX10_runBody_306 : decode cX10_runBody 306 = .ok (.iload_n 2, 1) := by decide +kernel
theorem dX10_runBody_307 : decode cX10_runBody 307 = .ok (.iconst 3, 1) := by decide +kernel
theorem dX10_runBody_308 : decode cX10_runBody 308 = .ok (.iload_n 3, 1) := by decide +kernel
theorem dX10_runBody_309 : decode cX10_runBody 309 = .ok (.iload 4, 2) := by decide +kernel
theorem dX10_runBody_311 : decode cX10_runBody 311 = .ok (.iload 5, 2) := by decide +kernel
theorem dX10_runBody_313 : decode cX10_runBody 313 = .ok (.invokevirtual 35, 3) := by decide +kernel
theorem dX10_runBody_316 : decode cX10_runBody 316 = .ok (.iconst 1, 1) := by decide +kernel
theorem dX10_runBody_317 : decode cX10_runBody 317 = .ok (.isub, 1) := by decide +kernel
theorem dX10_runBody_318 : decode cX10_runBody 318 = .ok (.ireturn, 1) := by decide +kernel
theorem dX10_runBody_319 : decode cX10_runBody 319 = .ok (.iconst 0, 1) := by decide +kernel
theorem dX10_runBody_320 : decode cX10_runBody 320 = .ok (.ireturn, 1) := by decide +kernel
def f_X10_runBody1 (rc_X10_perform : St → Int32 → Int32 → Int32 → Int32 → Int32 → Option (Int32 × St)) (σ : St) (p1 : Int32) (p2 : Int32) (p3 : Int32) (p4 : Int32) (p5 : Int32) : Option (Int32 × St) := chk (p2 < 0 ∨ 50 ≤ p2.toNatClampNeg) (bnd (σ.2.2.1 500 0 p2.toNatClampNeg) (fun v2 => if p1 = 1 then (some (p4 + p2, σ)) else (if p1 = 2 then (bnd2 (rc_X10_perform σ p2 (1 : Int32) v2 p4 p5) (fun r6 σ7 => bnd2 (rc_X10_perform σ7 p2 (2 : Int32) v2 (1 : Int32) p5) (fun r9 σ10 => some (r6 - r9, σ10)))) else (if p1 = 10 then (bnd2 (rc_X10_perform σ p2 (0 : Int32) v2 p4 p5) (fun r13 σ14 => some (r13 * (2 : Int32), σ14))) else (if p1 = 11 then (some (p4 ^^^ p2, σ)) else (if p1 = 20 then (bnd2 (rc_X10_perform σ p2 (0 : Int32) p3 p4 p5) (fun r18 σ19 => some (r18 + (3 : Int32), σ19))) else (if p1 = 30 then (bnd2 (rc_X10_perform σ p2 (1 : Int32) p3 p4 p5) (fun r22 σ23 => some (-r22, σ23))) else (if p1 = 40 then (bnd2 (rc_X10_perform σ p2 (2 : Int32) p3 p4 p5) (fun r26 σ27 => some (r26 * (3 : Int32), σ27))) else (if p1 = 41 then (bnd2 (rc_X10_perform σ p2 (1 : Int32) p3 (p4 + (1 : Int32)) p5) (fun r30 σ31 => some (r30, σ31))) else (if p1 = 50 then (bnd2 (rc_X10_perform σ p2 (2 : Int32) p3 p4 p5) (fun r34 σ35 => bnd2 (rc_X10_perform σ35 p2 (0 : Int32) v2 (2 : Int32) p5) (fun r37 σ38 => some (r34 - r37, σ38)))) else (if p1 = 60 then (bnd2 (rc_X10_perform σ p2 (3 : Int32) p3 p4 p5) (fun r41 σ42 => some (r41 ^^^ (5 : Int32), σ42))) else (if p1 = 70 then (bnd2 (rc_X10_perform σ p2 (0 : Int32) p3 p4 p5) (fun r45 σ46 => some (r45 * (2 : Int32), σ46))) else (if p1 = 80 then (bnd2 (rc_X10_perform σ p2 (1 : Int32) p3 p4 p5) (fun r49 σ50 => bnd2 (rc_X10_perform σ50 p2 (2 : Int32) v2 (2 : Int32) p5) (fun r52 σ53 => some (r49 + r52, σ53)))) else (if p1 = 81 then (bnd2 (rc_X10_perform σ p2 (3 : Int32) p3 p4 p5) (fun r56 σ57 => some (r56 - (1 : Int32), σ57))) else (some ((0 : Int32), σ))))))))))))))))
set_option maxHeartbeats 4000000 in
set_option maxRecDepth 100000 in
theorem c_X10_runBody1 {l : Launch} {g : va_G} {ts : ClassId × ClassId × ClassId} {a : Nat → Nat} {σ : St} {p1 : Int32} {p2 : Int32} {p3 : Int32} {p4 : Int32} {p5 : Int32} {r : Int32} {σ' : St} {Rf Rl : Nat} {Rf_X10_perform Rl_X10_perform : Nat} {rc_X10_perform : St → Int32 → Int32 → Int32 → Int32 → Int32 → Option (Int32 × St)} (hrc_X10_perform : (Rf_X10_perform ≤ Rf ∧ Rl_X10_perform ≤ Rl) ∧ ∀ (σ : St) (p1 : Int32) (p2 : Int32) (p3 : Int32) (p4 : Int32) (p5 : Int32) (r : Int32) (u : St), rc_X10_perform σ p1 p2 p3 p4 p5 = some (r, u) → ConI l g ts (WC ts a) yX10_perform cX10_perform 8 (some .int) (rk Rf_X10_perform Rl_X10_perform) σ [.ref (a 27), .int p1, .int p2, .int p3, .int p4, .int p5] r u) (hf : f_X10_runBody1 rc_X10_perform σ p1 p2 p3 p4 p5 = some (r, σ')) : ConI l g ts (WC ts a) yX10_runBody cX10_runBody 7 (some .int) (rk (Rf + 1) (Rl + 27)) σ [.ref (a 27), .int p1, .int p2, .int p3, .int p4, .int p5] r σ' := by
  refine ConI_mk .int rfl rfl rfl rfl (by decide) (Nat.le_of_ble_eq_true rfl) ?_
  intro p e s m below meth c A Q ls C hQ hP hD hS hl
  have C : FX p s m _ meth c RX10 cX10_runBody 7 g ts A := C
  have hx := C.1
  have hb := C.2.1
  have hown := C.2.2.2.1
  have hts := C.2.2.2.2.1
  have hl : lv_has ls 7 [(0, .ref (a 27)), (1, .int p1), (2, .int p2), (3, .int p3), (4, .int p4), (5, .int p5)] := hl
  rw [f_X10_runBody1] at hf
  refine lv_aload_n hx hb dX10_runBody_0 rfl (lv_at hl 0 rfl) ?_
  refine G_X10_kinds C hP q_337 dX10_runBody_1 ?_
  refine lv_iload_n hx hb dX10_runBody_4 rfl (lv_at hl 2 rfl) ?_
  obtain ⟨h1, hf⟩ := chk_some hf
  refine AL_X10_kinds C hP h1 dX10_runBody_5 ?_
  refine lv_topi (fun v2 ev2 => ?_)
  replace hf := bnd_at ev2 hf
  refine lv_istore (lv' := [(6, .int v2), (0, .ref (a 27)), (1, .int p1), (2, .int p2), (3, .int p3), (4, .int p4), (5, .int p5)]) hx hb dX10_runBody_6 hl (by decide) rfl (fun ls hl => ?_)
  refine lv_iload_n hx hb dX10_runBody_8 rfl (lv_at hl 2 rfl) ?_
  by_cases c3 : p1 = 1
  · replace hf := ipos c3 hf
    refine lv_lookup (off := 115) (tgt := 124) hx hb dX10_runBody_9 (by decide) (by rw [c3]; decide) (by decide) ?_
    refine lv_iload hx hb dX10_runBody_124 (lv_at hl 5 rfl) ?_
    refine lv_iload_n hx hb dX10_runBody_126 rfl (lv_at hl 3 rfl) ?_
    refine lv_iadd hx hb dX10_runBody_127 ?_
    exact retI hQ hf dX10_runBody_128 hP hD hS
  · replace hf := ineg c3 hf
    by_cases c4 : p1 = 2
    · replace hf := ipos c4 hf
      refine lv_lookup (off := 120) (tgt := 129) hx hb dX10_runBody_9 (by decide) (by rw [c4]; decide) (by decide) ?_
      refine lv_aload_n hx hb dX10_runBody_129 rfl (lv_at hl 1 rfl) ?_
      refine lv_iload_n hx hb dX10_runBody_130 rfl (lv_at hl 3 rfl) ?_
      refine lv_iconst (v := 1) hx hb dX10_runBody_131 (by decide) ?_
      refine lv_iload hx hb dX10_runBody_132 (lv_at hl 0 rfl) ?_
      refine lv_iload hx hb dX10_runBody_134 (lv_at hl 5 rfl) ?_
      refine lv_iload hx hb dX10_runBody_136 (lv_at hl 6 rfl) ?_
      obtain ⟨r6, σ7, h5, hf⟩ := bnd2_some hf
      refine vI [] C hP hD hS (hrc_X10_perform.2 _ _ _ _ _ _ _ _  h5) mv_X10_perform q_1007 rv_X10 dX10_runBody_138 ⟨by have hz := hrc_X10_perform.1; show Rf_X10_perform + 1 ≤ Rf + _; omega, by have hz := hrc_X10_perform.1; show 8 + (8 + 11) + Rl_X10_perform ≤ Rl + _; omega⟩ ⟨Nat.zero_le _, Nat.zero_le _⟩ rfl rfl (Nat.le_of_ble_eq_true rfl) hl.1 (fun H locs hP hD hS => ?_)
      refine lv_aload_n hx hb dX10_runBody_141 rfl (lv_at hl 1 rfl) ?_
      refine lv_iload_n hx hb dX10_runBody_142 rfl (lv_at hl 3 rfl) ?_
      refine lv_iconst (v := 2) hx hb dX10_runBody_143 (by decide) ?_
      refine lv_iload hx hb dX10_runBody_144 (lv_at hl 0 rfl) ?_
      refine lv_iconst (v := 1) hx hb dX10_runBody_146 (by decide) ?_
      refine lv_iload hx hb dX10_runBody_147 (lv_at hl 6 rfl) ?_
      obtain ⟨r9, σ10, h8, hf⟩ := bnd2_some hf
      refine vI [.int r6] C hP hD hS (hrc_X10_perform.2 _ _ _ _ _ _ _ _  h8) mv_X10_perform q_1007 rv_X10 dX10_runBody_149 ⟨by have hz := hrc_X10_perform.1; show Rf_X10_perform + 1 ≤ Rf + _; omega, by have hz := hrc_X10_perform.1; show 8 + (8 + 11) + Rl_X10_perform ≤ Rl + _; omega⟩ ⟨Nat.zero_le _, Nat.zero_le _⟩ rfl rfl (Nat.le_of_ble_eq_true rfl) hl.1 (fun H locs hP hD hS => ?_)
      refine lv_isub hx hb dX10_runBody_152 ?_
      exact retI hQ hf dX10_runBody_153 hP hD hS
    · replace hf := ineg c4 hf
      by_cases c11 : p1 = 10
      · replace hf := ipos c11 hf
        refine lv_lookup (off := 145) (tgt := 154) hx hb dX10_runBody_9 (by decide) (by rw [c11]; decide) (by decide) ?_
        refine lv_aload_n hx hb dX10_runBody_154 rfl (lv_at hl 1 rfl) ?_
        refine lv_iload_n hx hb dX10_runBody_155 rfl (lv_at hl 3 rfl) ?_
        refine lv_iconst (v := 0) hx hb dX10_runBody_156 (by decide) ?_
        refine lv_iload hx hb dX10_runBody_157 (lv_at hl 0 rfl) ?_
        refine lv_iload hx hb dX10_runBody_159 (lv_at hl 5 rfl) ?_
        refine lv_iload hx hb dX10_runBody_161 (lv_at hl 6 rfl) ?_
        obtain ⟨r13, σ14, h12, hf⟩ := bnd2_some hf
        refine vI [] C hP hD hS (hrc_X10_perform.2 _ _ _ _ _ _ _ _  h12) mv_X10_perform q_1007 rv_X10 dX10_runBody_163 ⟨by have hz := hrc_X10_perform.1; show Rf_X10_perform + 1 ≤ Rf + _; omega, by have hz := hrc_X10_perform.1; show 8 + (8 + 11) + Rl_X10_perform ≤ Rl + _; omega⟩ ⟨Nat.zero_le _, Nat.zero_le _⟩ rfl rfl (Nat.le_of_ble_eq_true rfl) hl.1 (fun H locs hP hD hS => ?_)
        refine lv_iconst (v := 2) hx hb dX10_runBody_166 (by decide) ?_
        refine lv_imul hx hb dX10_runBody_167 ?_
        exact retI hQ hf dX10_runBody_168 hP hD hS
      · replace hf := ineg c11 hf
        by_cases c15 : p1 = 11
        · replace hf := ipos c15 hf
          refine lv_lookup (off := 160) (tgt := 169) hx hb dX10_runBody_9 (by decide) (by rw [c15]; decide) (by decide) ?_
          refine lv_iload hx hb dX10_runBody_169 (lv_at hl 5 rfl) ?_
          refine lv_iload_n hx hb dX10_runBody_171 rfl (lv_at hl 3 rfl) ?_
          refine lv_ixor hx hb dX10_runBody_172 ?_
          exact retI hQ hf dX10_runBody_173 hP hD hS
        · replace hf := ineg c15 hf
          by_cases c16 : p1 = 20
          · replace hf := ipos c16 hf
            refine lv_lookup (off := 165) (tgt := 174) hx hb dX10_runBody_9 (by decide) (by rw [c16]; decide) (by decide) ?_
            refine lv_aload_n hx hb dX10_runBody_174 rfl (lv_at hl 1 rfl) ?_
            refine lv_iload_n hx hb dX10_runBody_175 rfl (lv_at hl 3 rfl) ?_
            refine lv_iconst (v := 0) hx hb dX10_runBody_176 (by decide) ?_
            refine lv_iload_n hx hb dX10_runBody_177 rfl (lv_at hl 4 rfl) ?_
            refine lv_iload hx hb dX10_runBody_178 (lv_at hl 5 rfl) ?_
            refine lv_iload hx hb dX10_runBody_180 (lv_at hl 6 rfl) ?_
            obtain ⟨r18, σ19, h17, hf⟩ := bnd2_some hf
            refine vI [] C hP hD hS (hrc_X10_perform.2 _ _ _ _ _ _ _ _  h17) mv_X10_perform q_1007 rv_X10 dX10_runBody_182 ⟨by have hz := hrc_X10_perform.1; show Rf_X10_perform + 1 ≤ Rf + _; omega, by have hz := hrc_X10_perform.1; show 8 + (8 + 11) + Rl_X10_perform ≤ Rl + _; omega⟩ ⟨Nat.zero_le _, Nat.zero_le _⟩ rfl rfl (Nat.le_of_ble_eq_true rfl) hl.1 (fun H locs hP hD hS => ?_)
            refine lv_iconst (v := 3) hx hb dX10_runBody_185 (by decide) ?_
            refine lv_iadd hx hb dX10_runBody_186 ?_
            exact retI hQ hf dX10_runBody_187 hP hD hS
          · replace hf := ineg c16 hf
            by_cases c20 : p1 = 30
            · replace hf := ipos c20 hf
              refine lv_lookup (off := 179) (tgt := 188) hx hb dX10_runBody_9 (by decide) (by rw [c20]; decide) (by decide) ?_
              refine lv_aload_n hx hb dX10_runBody_188 rfl (lv_at hl 1 rfl) ?_
              refine lv_iload_n hx hb dX10_runBody_189 rfl (lv_at hl 3 rfl) ?_
              refine lv_iconst (v := 1) hx hb dX10_runBody_190 (by decide) ?_
              refine lv_iload_n hx hb dX10_runBody_191 rfl (lv_at hl 4 rfl) ?_
              refine lv_iload hx hb dX10_runBody_192 (lv_at hl 5 rfl) ?_
              refine lv_iload hx hb dX10_runBody_194 (lv_at hl 6 rfl) ?_
              obtain ⟨r22, σ23, h21, hf⟩ := bnd2_some hf
              refine vI [] C hP hD hS (hrc_X10_perform.2 _ _ _ _ _ _ _ _  h21) mv_X10_perform q_1007 rv_X10 dX10_runBody_196 ⟨by have hz := hrc_X10_perform.1; show Rf_X10_perform + 1 ≤ Rf + _; omega, by have hz := hrc_X10_perform.1; show 8 + (8 + 11) + Rl_X10_perform ≤ Rl + _; omega⟩ ⟨Nat.zero_le _, Nat.zero_le _⟩ rfl rfl (Nat.le_of_ble_eq_true rfl) hl.1 (fun H locs hP hD hS => ?_)
              refine lv_ineg hx hb dX10_runBody_199 ?_
              exact retI hQ hf dX10_runBody_200 hP hD hS
            · replace hf := ineg c20 hf
              by_cases c24 : p1 = 40
              · replace hf := ipos c24 hf
                refine lv_lookup (off := 192) (tgt := 201) hx hb dX10_runBody_9 (by decide) (by rw [c24]; decide) (by decide) ?_
                refine lv_aload_n hx hb dX10_runBody_201 rfl (lv_at hl 1 rfl) ?_
                refine lv_iload_n hx hb dX10_runBody_202 rfl (lv_at hl 3 rfl) ?_
                refine lv_iconst (v := 2) hx hb dX10_runBody_203 (by decide) ?_
                refine lv_iload_n hx hb dX10_runBody_204 rfl (lv_at hl 4 rfl) ?_
                refine lv_iload hx hb dX10_runBody_205 (lv_at hl 5 rfl) ?_
                refine lv_iload hx hb dX10_runBody_207 (lv_at hl 6 rfl) ?_
                obtain ⟨r26, σ27, h25, hf⟩ := bnd2_some hf
                refine vI [] C hP hD hS (hrc_X10_perform.2 _ _ _ _ _ _ _ _  h25) mv_X10_perform q_1007 rv_X10 dX10_runBody_209 ⟨by have hz := hrc_X10_perform.1; show Rf_X10_perform + 1 ≤ Rf + _; omega, by have hz := hrc_X10_perform.1; show 8 + (8 + 11) + Rl_X10_perform ≤ Rl + _; omega⟩ ⟨Nat.zero_le _, Nat.zero_le _⟩ rfl rfl (Nat.le_of_ble_eq_true rfl) hl.1 (fun H locs hP hD hS => ?_)
                refine lv_iconst (v := 3) hx hb dX10_runBody_212 (by decide) ?_
                refine lv_imul hx hb dX10_runBody_213 ?_
                exact retI hQ hf dX10_runBody_214 hP hD hS
              · replace hf := ineg c24 hf
                by_cases c28 : p1 = 41
                · replace hf := ipos c28 hf
                  refine lv_lookup (off := 206) (tgt := 215) hx hb dX10_runBody_9 (by decide) (by rw [c28]; decide) (by decide) ?_
                  refine lv_aload_n hx hb dX10_runBody_215 rfl (lv_at hl 1 rfl) ?_
                  refine lv_iload_n hx hb dX10_runBody_216 rfl (lv_at hl 3 rfl) ?_
                  refine lv_iconst (v := 1) hx hb dX10_runBody_217 (by decide) ?_
                  refine lv_iload_n hx hb dX10_runBody_218 rfl (lv_at hl 4 rfl) ?_
                  refine lv_iload hx hb dX10_runBody_219 (lv_at hl 5 rfl) ?_
                  refine lv_iconst (v := 1) hx hb dX10_runBody_221 (by decide) ?_
                  refine lv_iadd hx hb dX10_runBody_222 ?_
                  refine lv_iload hx hb dX10_runBody_223 (lv_at hl 6 rfl) ?_
                  obtain ⟨r30, σ31, h29, hf⟩ := bnd2_some hf
                  refine vI [] C hP hD hS (hrc_X10_perform.2 _ _ _ _ _ _ _ _  h29) mv_X10_perform q_1007 rv_X10 dX10_runBody_225 ⟨by have hz := hrc_X10_perform.1; show Rf_X10_perform + 1 ≤ Rf + _; omega, by have hz := hrc_X10_perform.1; show 8 + (8 + 11) + Rl_X10_perform ≤ Rl + _; omega⟩ ⟨Nat.zero_le _, Nat.zero_le _⟩ rfl rfl (Nat.le_of_ble_eq_true rfl) hl.1 (fun H locs hP hD hS => ?_)
                  exact retI hQ hf dX10_runBody_228 hP hD hS
                · replace hf := ineg c28 hf
                  by_cases c32 : p1 = 50
                  · replace hf := ipos c32 hf
                    refine lv_lookup (off := 220) (tgt := 229) hx hb dX10_runBody_9 (by decide) (by rw [c32]; decide) (by decide) ?_
                    refine lv_aload_n hx hb dX10_runBody_229 rfl (lv_at hl 1 rfl) ?_
                    refine lv_iload_n hx hb dX10_runBody_230 rfl (lv_at hl 3 rfl) ?_
                    refine lv_iconst (v := 2) hx hb dX10_runBody_231 (by decide) ?_
                    refine lv_iload_n hx hb dX10_runBody_232 rfl (lv_at hl 4 rfl) ?_
                    refine lv_iload hx hb dX10_runBody_233 (lv_at hl 5 rfl) ?_
                    refine lv_iload hx hb dX10_runBody_235 (lv_at hl 6 rfl) ?_
                    obtain ⟨r34, σ35, h33, hf⟩ := bnd2_some hf
                    refine vI [] C hP hD hS (hrc_X10_perform.2 _ _ _ _ _ _ _ _  h33) mv_X10_perform q_1007 rv_X10 dX10_runBody_237 ⟨by have hz := hrc_X10_perform.1; show Rf_X10_perform + 1 ≤ Rf + _; omega, by have hz := hrc_X10_perform.1; show 8 + (8 + 11) + Rl_X10_perform ≤ Rl + _; omega⟩ ⟨Nat.zero_le _, Nat.zero_le _⟩ rfl rfl (Nat.le_of_ble_eq_true rfl) hl.1 (fun H locs hP hD hS => ?_)
                    refine lv_aload_n hx hb dX10_runBody_240 rfl (lv_at hl 1 rfl) ?_
                    refine lv_iload_n hx hb dX10_runBody_241 rfl (lv_at hl 3 rfl) ?_
                    refine lv_iconst (v := 0) hx hb dX10_runBody_242 (by decide) ?_
                    refine lv_iload hx hb dX10_runBody_243 (lv_at hl 0 rfl) ?_
                    refine lv_iconst (v := 2) hx hb dX10_runBody_245 (by decide) ?_
                    refine lv_iload hx hb dX10_runBody_246 (lv_at hl 6 rfl) ?_
                    obtain ⟨r37, σ38, h36, hf⟩ := bnd2_some hf
                    refine vI [.int r34] C hP hD hS (hrc_X10_perform.2 _ _ _ _ _ _ _ _  h36) mv_X10_perform q_1007 rv_X10 dX10_runBody_248 ⟨by have hz := hrc_X10_perform.1; show Rf_X10_perform + 1 ≤ Rf + _; omega, by have hz := hrc_X10_perform.1; show 8 + (8 + 11) + Rl_X10_perform ≤ Rl + _; omega⟩ ⟨Nat.zero_le _, Nat.zero_le _⟩ rfl rfl (Nat.le_of_ble_eq_true rfl) hl.1 (fun H locs hP hD hS => ?_)
                    refine lv_isub hx hb dX10_runBody_251 ?_
                    exact retI hQ hf dX10_runBody_252 hP hD hS
                  · replace hf := ineg c32 hf
                    by_cases c39 : p1 = 60
                    · replace hf := ipos c39 hf
                      refine lv_lookup (off := 244) (tgt := 253) hx hb dX10_runBody_9 (by decide) (by rw [c39]; decide) (by decide) ?_
                      refine lv_aload_n hx hb dX10_runBody_253 rfl (lv_at hl 1 rfl) ?_
                      refine lv_iload_n hx hb dX10_runBody_254 rfl (lv_at hl 3 rfl) ?_
                      refine lv_iconst (v := 3) hx hb dX10_runBody_255 (by decide) ?_
                      refine lv_iload_n hx hb dX10_runBody_256 rfl (lv_at hl 4 rfl) ?_
                      refine lv_iload hx hb dX10_runBody_257 (lv_at hl 5 rfl) ?_
                      refine lv_iload hx hb dX10_runBody_259 (lv_at hl 6 rfl) ?_
                      obtain ⟨r41, σ42, h40, hf⟩ := bnd2_some hf
                      refine vI [] C hP hD hS (hrc_X10_perform.2 _ _ _ _ _ _ _ _  h40) mv_X10_perform q_1007 rv_X10 dX10_runBody_261 ⟨by have hz := hrc_X10_perform.1; show Rf_X10_perform + 1 ≤ Rf + _; omega, by have hz := hrc_X10_perform.1; show 8 + (8 + 11) + Rl_X10_perform ≤ Rl + _; omega⟩ ⟨Nat.zero_le _, Nat.zero_le _⟩ rfl rfl (Nat.le_of_ble_eq_true rfl) hl.1 (fun H locs hP hD hS => ?_)
                      refine lv_iconst (v := 5) hx hb dX10_runBody_264 (by decide) ?_
                      refine lv_ixor hx hb dX10_runBody_265 ?_
                      exact retI hQ hf dX10_runBody_266 hP hD hS
                    · replace hf := ineg c39 hf
                      by_cases c43 : p1 = 70
                      · replace hf := ipos c43 hf
                        refine lv_lookup (off := 258) (tgt := 267) hx hb dX10_runBody_9 (by decide) (by rw [c43]; decide) (by decide) ?_
                        refine lv_aload_n hx hb dX10_runBody_267 rfl (lv_at hl 1 rfl) ?_
                        refine lv_iload_n hx hb dX10_runBody_268 rfl (lv_at hl 3 rfl) ?_
                        refine lv_iconst (v := 0) hx hb dX10_runBody_269 (by decide) ?_
                        refine lv_iload_n hx hb dX10_runBody_270 rfl (lv_at hl 4 rfl) ?_
                        refine lv_iload hx hb dX10_runBody_271 (lv_at hl 5 rfl) ?_
                        refine lv_iload hx hb dX10_runBody_273 (lv_at hl 6 rfl) ?_
                        obtain ⟨r45, σ46, h44, hf⟩ := bnd2_some hf
                        refine vI [] C hP hD hS (hrc_X10_perform.2 _ _ _ _ _ _ _ _  h44) mv_X10_perform q_1007 rv_X10 dX10_runBody_275 ⟨by have hz := hrc_X10_perform.1; show Rf_X10_perform + 1 ≤ Rf + _; omega, by have hz := hrc_X10_perform.1; show 8 + (8 + 11) + Rl_X10_perform ≤ Rl + _; omega⟩ ⟨Nat.zero_le _, Nat.zero_le _⟩ rfl rfl (Nat.le_of_ble_eq_true rfl) hl.1 (fun H locs hP hD hS => ?_)
                        refine lv_iconst (v := 2) hx hb dX10_runBody_278 (by decide) ?_
                        refine lv_imul hx hb dX10_runBody_279 ?_
                        exact retI hQ hf dX10_runBody_280 hP hD hS
                      · replace hf := ineg c43 hf
                        by_cases c47 : p1 = 80
                        · replace hf := ipos c47 hf
                          refine lv_lookup (off := 272) (tgt := 281) hx hb dX10_runBody_9 (by decide) (by rw [c47]; decide) (by decide) ?_
                          refine lv_aload_n hx hb dX10_runBody_281 rfl (lv_at hl 1 rfl) ?_
                          refine lv_iload_n hx hb dX10_runBody_282 rfl (lv_at hl 3 rfl) ?_
                          refine lv_iconst (v := 1) hx hb dX10_runBody_283 (by decide) ?_
                          refine lv_iload_n hx hb dX10_runBody_284 rfl (lv_at hl 4 rfl) ?_
                          refine lv_iload hx hb dX10_runBody_285 (lv_at hl 5 rfl) ?_
                          refine lv_iload hx hb dX10_runBody_287 (lv_at hl 6 rfl) ?_
                          obtain ⟨r49, σ50, h48, hf⟩ := bnd2_some hf
                          refine vI [] C hP hD hS (hrc_X10_perform.2 _ _ _ _ _ _ _ _  h48) mv_X10_perform q_1007 rv_X10 dX10_runBody_289 ⟨by have hz := hrc_X10_perform.1; show Rf_X10_perform + 1 ≤ Rf + _; omega, by have hz := hrc_X10_perform.1; show 8 + (8 + 11) + Rl_X10_perform ≤ Rl + _; omega⟩ ⟨Nat.zero_le _, Nat.zero_le _⟩ rfl rfl (Nat.le_of_ble_eq_true rfl) hl.1 (fun H locs hP hD hS => ?_)
                          refine lv_aload_n hx hb dX10_runBody_292 rfl (lv_at hl 1 rfl) ?_
                          refine lv_iload_n hx hb dX10_runBody_293 rfl (lv_at hl 3 rfl) ?_
                          refine lv_iconst (v := 2) hx hb dX10_runBody_294 (by decide) ?_
                          refine lv_iload hx hb dX10_runBody_295 (lv_at hl 0 rfl) ?_
                          refine lv_iconst (v := 2) hx hb dX10_runBody_297 (by decide) ?_
                          refine lv_iload hx hb dX10_runBody_298 (lv_at hl 6 rfl) ?_
                          obtain ⟨r52, σ53, h51, hf⟩ := bnd2_some hf
                          refine vI [.int r49] C hP hD hS (hrc_X10_perform.2 _ _ _ _ _ _ _ _  h51) mv_X10_perform q_1007 rv_X10 dX10_runBody_300 ⟨by have hz := hrc_X10_perform.1; show Rf_X10_perform + 1 ≤ Rf + _; omega, by have hz := hrc_X10_perform.1; show 8 + (8 + 11) + Rl_X10_perform ≤ Rl + _; omega⟩ ⟨Nat.zero_le _, Nat.zero_le _⟩ rfl rfl (Nat.le_of_ble_eq_true rfl) hl.1 (fun H locs hP hD hS => ?_)
                          refine lv_iadd hx hb dX10_runBody_303 ?_
                          exact retI hQ hf dX10_runBody_304 hP hD hS
                        · replace hf := ineg c47 hf
                          by_cases c54 : p1 = 81
                          · replace hf := ipos c54 hf
                            refine lv_lookup (off := 296) (tgt := 305) hx hb dX10_runBody_9 (by decide) (by rw [c54]; decide) (by decide) ?_
                            refine lv_aload_n hx hb dX10_runBody_305 rfl (lv_at hl 1 rfl) ?_
                            refine lv_iload_n hx hb dX10_runBody_306 rfl (lv_at hl 3 rfl) ?_
                            refine lv_iconst (v := 3) hx hb dX10_runBody_307 (by decide) ?_
                            refine lv_iload_n hx hb dX10_runBody_308 rfl (lv_at hl 4 rfl) ?_
                            refine lv_iload hx hb dX10_runBody_309 (lv_at hl 5 rfl) ?_
                            refine lv_iload hx hb dX10_runBody_311 (lv_at hl 6 rfl) ?_
                            obtain ⟨r56, σ57, h55, hf⟩ := bnd2_some hf
                            refine vI [] C hP hD hS (hrc_X10_perform.2 _ _ _ _ _ _ _ _  h55) mv_X10_perform q_1007 rv_X10 dX10_runBody_313 ⟨by have hz := hrc_X10_perform.1; show Rf_X10_perform + 1 ≤ Rf + _; omega, by have hz := hrc_X10_perform.1; show 8 + (8 + 11) + Rl_X10_perform ≤ Rl + _; omega⟩ ⟨Nat.zero_le _, Nat.zero_le _⟩ rfl rfl (Nat.le_of_ble_eq_true rfl) hl.1 (fun H locs hP hD hS => ?_)
                            refine lv_iconst (v := 1) hx hb dX10_runBody_316 (by decide) ?_
                            refine lv_isub hx hb dX10_runBody_317 ?_
                            exact retI hQ hf dX10_runBody_318 hP hD hS
                          · replace hf := ineg c54 hf
                            refine lv_lookup (off := 310) (tgt := 319) hx hb dX10_runBody_9 (by decide) (by show Op.lookupswitch.offset [(1, 115), (2, 120), (10, 145), (11, 160), (20, 165), (30, 179), (40, 192), (41, 206), (50, 220), (60, 244), (70, 258), (80, 272), (81, 296)] 310 (p1).toInt = _; rw [lv_osw c3 (by decide), lv_osw c4 (by decide), lv_osw c11 (by decide), lv_osw c15 (by decide), lv_osw c16 (by decide), lv_osw c20 (by decide), lv_osw c24 (by decide), lv_osw c28 (by decide), lv_osw c32 (by decide), lv_osw c39 (by decide), lv_osw c43 (by decide), lv_osw c47 (by decide), lv_osw c54 (by decide)]; rfl) (by decide) ?_
                            refine lv_iconst (v := 0) hx hb dX10_runBody_319 (by decide) ?_
                            exact retI hQ hf dX10_runBody_320 hP hD hS
def spG : Nat → (St → Int32 → Int32 → Int32 → Int32 → Int32 → Option (Int32 × St)) × (St → Int32 → Int32 → Int32 → Int32 → Int32 → Option (Int32 × St))
  | 0 => (fun _ _ _ _ _ _ => none, fun _ _ _ _ _ _ => none)
  | n + 1 => (f_X10_perform1 (spG n).2, f_X10_runBody1 (spG n).1)
theorem spG_ok {l : Launch} {g : va_G} {ts : ClassId × ClassId × ClassId} {a : Nat → Nat} : ∀ n : Nat, (∀ (σ : St) (p1 : Int32) (p2 : Int32) (p3 : Int32) (p4 : Int32) (p5 : Int32) (r : Int32) (u : St), (spG n).1 σ p1 p2 p3 p4 p5 = some (r, u) → ConI l g ts (WC ts a) yX10_perform cX10_perform 8 (some .int) (rk (1 * n) (27 * n)) σ [.ref (a 27), .int p1, .int p2, .int p3, .int p4, .int p5] r u) ∧ (∀ (σ : St) (p1 : Int32) (p2 : Int32) (p3 : Int32) (p4 : Int32) (p5 : Int32) (r : Int32) (u : St), (spG n).2 σ p1 p2 p3 p4 p5 = some (r, u) → ConI l g ts (WC ts a) yX10_runBody cX10_runBody 7 (some .int) (rk (1 * n) (27 * n)) σ [.ref (a 27), .int p1, .int p2, .int p3, .int p4, .int p5] r u) := by
  intro n
  induction n with
  | zero => exact ⟨(fun _ _ _ _ _ _ _ _ hf => (by cases hf)), (fun _ _ _ _ _ _ _ _ hf => (by cases hf))⟩
  | succ n ih =>
    exact ⟨(fun _ _ _ _ _ _ _ _ hf => c_X10_perform1 (Rf := 1 * n) (Rl := 27 * n) (Rf_X10_runBody := 1 * n) (Rl_X10_runBody := 27 * n) ⟨⟨Nat.le_refl _, Nat.le_refl _⟩, ih.2⟩ hf), (fun _ _ _ _ _ _ _ _ hf => c_X10_runBody1 (Rf := 1 * n) (Rl := 27 * n) (Rf_X10_perform := 1 * n) (Rl_X10_perform := 27 * n) ⟨⟨Nat.le_refl _, Nat.le_refl _⟩, ih.1⟩ hf)⟩
def f_X10_perform (σ : St) (p1 : Int32) (p2 : Int32) (p3 : Int32) (p4 : Int32) (p5 : Int32) : Option (Int32 × St) := (spG 60).1 σ p1 p2 p3 p4 p5
theorem c_X10_perform {l : Launch} {g : va_G} {ts : ClassId × ClassId × ClassId} {a : Nat → Nat} {σ : St} {p1 : Int32} {p2 : Int32} {p3 : Int32} {p4 : Int32} {p5 : Int32} {r : Int32} {u : St} (hf : f_X10_perform σ p1 p2 p3 p4 p5 = some (r, u)) : ConI l g ts (WC ts a) yX10_perform cX10_perform 8 (some .int) (rk 60 1620) σ [.ref (a 27), .int p1, .int p2, .int p3, .int p4, .int p5] r u := (spG_ok 60).1 σ p1 p2 p3 p4 p5 r u hf
def f_X10_runBody (σ : St) (p1 : Int32) (p2 : Int32) (p3 : Int32) (p4 : Int32) (p5 : Int32) : Option (Int32 × St) := (spG 60).2 σ p1 p2 p3 p4 p5
theorem c_X10_runBody {l : Launch} {g : va_G} {ts : ClassId × ClassId × ClassId} {a : Nat → Nat} {σ : St} {p1 : Int32} {p2 : Int32} {p3 : Int32} {p4 : Int32} {p5 : Int32} {r : Int32} {u : St} (hf : f_X10_runBody σ p1 p2 p3 p4 p5 = some (r, u)) : ConI l g ts (WC ts a) yX10_runBody cX10_runBody 7 (some .int) (rk 60 1620) σ [.ref (a 27), .int p1, .int p2, .int p3, .int p4, .int p5] r u := (spG_ok 60).2 σ p1 p2 p3 p4 p5 r u hf
