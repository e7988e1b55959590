theorem mv_X2_lengthen : MV yX2_lengthen cX2_lengthen 5 none 1 := ⟨q_838, q_11, q_65, q_839, by decide +kernel, by decide +kernel, by decide +kernel⟩
theorem mv_X2_weigh : MV yX2_weigh cX2_weigh 4 none 1 := ⟨q_829, q_830, q_65, q_831, by decide +kernel, by decide +kernel, by decide +kernel⟩
theorem dX2_lengthen_0 : decode cX2_lengthen 0 = .ok (.aload_n 0, 1) := by decide +kernel
theorem dX2_lengthen_1 : decode cX2_lengthen 1 = .ok (.getfield 15, 3) := by decide +kernel
theorem dX2_lengthen_4 : decode cX2_lengthen 4 = .ok (.lconst 0, 1) := by decide +kernel
theorem dX2_lengthen_5 : decode cX2_lengthen 5 = .ok (.invokestatic 22, 3) := by decide +kernel
theorem dX2_lengthen_8 : decode cX2_lengthen 8 = .ok (.aload_n 0, 1) := by decide +kernel
theorem dX2_lengthen_9 : decode cX2_lengthen 9 = .ok (.lconst 0, 1) := by decide +kernel
theorem dX2_lengthen_10 : decode cX2_lengthen 10 = .ok (.putfield 28, 3) := by decide +kernel
theorem dX2_lengthen_13 : decode cX2_lengthen 13 = .ok (.iconst 0, 1) := by decide +kernel
theorem dX2_lengthen_14 : decode cX2_lengthen 14 = .ok (.istore_n 2, 1) := by decide +kernel
theorem dX2_lengthen_15 : decode cX2_lengthen 15 = .ok (.iload_n 2, 1) := by decide +kernel
theorem dX2_lengthen_16 : decode cX2_lengthen 16 = .ok (.bipush 12, 2) := by decide +kernel
theorem dX2_lengthen_18 : decode cX2_lengthen 18 = .ok (.if_icmp .ge 83, 3) := by decide +kernel
theorem dX2_lengthen_21 : decode cX2_lengthen 21 = .ok (.aload_n 0, 1) := by decide +kernel
theorem dX2_lengthen_22 : decode cX2_lengthen 22 = .ok (.getfield 18, 3) := by decide +kernel
theorem dX2_lengthen_25 : decode cX2_lengthen 25 = .ok (.iload_n 2, 1) := by decide +kernel
theorem dX2_lengthen_26 : decode cX2_lengthen 26 = .ok (.iload_n 1, 1) := by decide +kernel
theorem dX2_lengthen_27 : decode cX2_lengthen 27 = .ok (.iconst 0, 1) := by decide +kernel
theorem dX2_lengthen_28 : decode cX2_lengthen 28 = .ok (.invokevirtual 46, 3) := by decide +kernel
theorem dX2_lengthen_31 : decode cX2_lengthen 31 = .ok (.istore_n 3, 1) := by decide +kernel
theorem dX2_lengthen_32 : decode cX2_lengthen 32 = .ok (.iconst 0, 1) := by decide +kernel
theorem dX2_lengthen_33 : decode cX2_lengthen 33 = .ok (.istore 4, 2) := by decide +kernel
theorem dX2_lengthen_35 : decode cX2_lengthen 35 = .ok (.iload_n 3, 1) := by decide +kernel
theorem dX2_lengthen_36 : decode cX2_lengthen 36 = .ok (.ifCond .eq 59, 3) := by decide +kernel
theorem dX2_lengthen_39 : decode cX2_lengthen 39 = .ok (.iload 4, 2) := by decide +kernel
theorem dX2_lengthen_41 : decode cX2_lengthen 41 = .ok (.iload_n 2, 1) := by decide +kernel
theorem dX2_lengthen_42 : decode cX2_lengthen 42 = .ok (.iadd, 1) := by decide +kernel
theorem dX2_lengthen_43 : decode cX2_lengthen 43 = .ok (.bipush 44, 2) := by decide +kernel
theorem dX2_lengthen_45 : decode cX2_lengthen 45 = .ok (.if_icmp .gt 50, 3) := by decide +kernel
theorem dX2_lengthen_48 : decode cX2_lengthen 48 = .ok (.aload_n 0, 1) := by decide +kernel
theorem dX2_lengthen_49 : decode cX2_lengthen 49 = .ok (.getfield 15, 3) := by decide +kernel
theorem dX2_lengthen_52 : decode cX2_lengthen 52 = .ok (.iload 4, 2) := by decide +kernel
theorem dX2_lengthen_54 : decode cX2_lengthen 54 = .ok (.iload_n 2, 1) := by decide +kernel
theorem dX2_lengthen_55 : decode cX2_lengthen 55 = .ok (.iadd, 1) := by decide +kernel
theorem dX2_lengthen_56 : decode cX2_lengthen 56 = .ok (.dup2, 1) := by decide +kernel
theorem dX2_lengthen_57 : decode cX2_lengthen 57 = .ok (.laload, 1) := by decide +kernel
theorem dX2_lengthen_58 : decode cX2_lengthen 58 = .ok (.aload_n 0, 1) := by decide +kernel
theorem dX2_lengthen_59 : decode cX2_lengthen 59 = .ok (.getfield 11, 3) := by decide +kernel
theorem dX2_lengthen_62 : decode cX2_lengthen 62 = .ok (.iload 4, 2) := by decide +kernel
theorem dX2_lengthen_64 : decode cX2_lengthen 64 = .ok (.laload, 1) := by decide +kernel
theorem dX2_lengthen_65 : decode cX2_lengthen 65 = .ok (.iload_n 3, 1) := by decide +kernel
theorem dX2_lengthen_66 : decode cX2_lengthen 66 = .ok (.i2l, 1) := by decide +kernel
theorem dX2_lengthen_67 : decode cX2_lengthen 67 = .ok (.lmul, 1) := by decide +kernel
theorem dX2_lengthen_68 : decode cX2_lengthen 68 = .ok (.ladd, 1) := by decide +kernel
theorem dX2_lengthen_69 : decode cX2_lengthen 69 = .ok (.lastore, 1) := by decide +kernel
theorem dX2_lengthen_70 : decode cX2_lengthen 70 = .ok (.aload_n 0, 1) := by decide +kernel
theorem dX2_lengthen_71 : decode cX2_lengthen 71 = .ok (.dup, 1) := by decide +kernel
theorem dX2_lengthen_72 : decode cX2_lengthen 72 = .ok (.getfield 28, 3) := by decide +kernel
theorem dX2_lengthen_75 : decode cX2_lengthen 75 = .ok (.aload_n 0, 1) := by decide +kernel
theorem dX2_lengthen_76 : decode cX2_lengthen 76 = .ok (.getfield 11, 3) := by decide +kernel
theorem dX2_lengthen_79 : decode cX2_lengthen 79 = .ok (.iload 4, 2) := by decide +kernel
theorem dX2_lengthen_81 : decode cX2_lengthen 81 = .ok (.laload, 1) := by decide +kernel
theorem dX2_lengthen_82 : decode cX2_lengthen 82 = .ok (.iload_n 3, 1) := by decide +kernel
theorem dX2_lengthen_83 : decode cX2_lengthen 83 = .ok (.i2l, 1) := by decide +kernel
theorem dX2_lengthen_84 : decode cX2_lengthen 84 = .ok (.lmul, 1) := by decide +kernel
theorem dX2_lengthen_85 : decode cX2_lengthen 85 = .ok (.ladd, 1) := by decide +kernel
theorem dX2_lengthen_86 : decode cX2_lengthen 86 = .ok (.putfield 28, 3) := by decide +kernel
theorem dX2_lengthen_89 : decode cX2_lengthen 89 = .ok (.iinc 4 1, 3) := by decide +kernel
theorem dX2_lengthen_92 : decode cX2_lengthen 92 = .ok (.goto (-57), 3) := by decide +kernel
theorem dX2_lengthen_95 : decode cX2_lengthen 95 = .ok (.iinc 2 1, 3) := by decide +kernel
theorem dX2_lengthen_98 : decode cX2_lengthen 98 = .ok (.goto (-83), 3) := by decide +kernel
theorem dX2_lengthen_101 : decode cX2_lengthen 101 = .ok (.aload_n 0, 1) := by decide +kernel
theorem dX2_lengthen_102 : decode cX2_lengthen 102 = .ok (.getfield 11, 3) := by decide +kernel
theorem dX2_lengthen_105 : decode cX2_lengthen 105 = .ok (.astore_n 2, 1) := by decide +kernel
theorem dX2_lengthen_106 : decode cX2_lengthen 106 = .ok (.aload_n 0, 1) := by decide +kernel
theorem dX2_lengthen_107 : decode cX2_lengthen 107 = .ok (.aload_n 0, 1) := by decide +kernel
theorem dX2_lengthen_108 : decode cX2_lengthen 108 = .ok (.getfield 15, 3) := by decide +kernel
theorem dX2_lengthen_111 : decode cX2_lengthen 111 = .ok (.putfield 11, 3) := by decide +kernel
theorem dX2_lengthen_114 : decode cX2_lengthen 114 = .ok (.aload_n 0, 1) := by decide +kernel
theorem dX2_lengthen_115 : decode cX2_lengthen 115 = .ok (.aload_n 2, 1) := by decide +kernel
theorem dX2_lengthen_116 : decode cX2_lengthen 116 = .ok (.putfield 15, 3) := by decide +kernel
theorem dX2_lengthen_119 : decode cX2_lengthen 119 = .ok (.return_, 1) := by decide +kernel
def f_X2_lengthen_b35 (k15 : St → Int32 → Int32 → Option St) : Nat → St → Int32 → Int32 → Int32 → Int32 → Option St
  | 0, _, _, _, _, _ => none
  | n + 1, σ, x1, x2, x3, x4 => if x3 = 0 then (bnd (x2 + 1) (fun v11 => k15 σ x1 v11)) else (if (44 : Int32) < x4 + x2 then (bnd (x2 + 1) (fun v13 => k15 σ x1 v13)) else (chk (2 ≤ σ.2.2.2.2 102) (chk (x4 + x2 < 0 ∨ 45 ≤ (x4 + x2).toNatClampNeg) (chk (2 ≤ σ.2.2.2.2 101) (chk (x4 < 0 ∨ 45 ≤ x4.toNatClampNeg) (chk (x4 + x2 < 0 ∨ 45 ≤ (x4 + x2).toNatClampNeg) (bnd (sL σ 101 (σ.2.2.2.2 102) (vp_updL (σ.2.2.2.1 101 (σ.2.2.2.2 102)) (x4 + x2).toNatClampNeg ((σ.2.2.2.1 101 (σ.2.2.2.2 102) (x4 + x2).toNatClampNeg) + ((σ.2.2.2.1 101 (σ.2.2.2.2 101) x4.toNatClampNeg) * ((x3 : Int32).toInt64))))) (fun σ19 => chk (2 ≤ σ19.2.2.2.2 101) (chk (x4 < 0 ∨ 45 ≤ x4.toNatClampNeg) (bnd (sJ σ19 103 0 ((σ19.2.1 103 0) + ((σ19.2.2.2.1 101 (σ19.2.2.2.2 101) x4.toNatClampNeg) * ((x3 : Int32).toInt64)))) (fun σ22 => bnd (x4 + 1) (fun v23 => f_X2_lengthen_b35 k15 n σ22 x1 x2 x3 v23))))))))))))
def f_X2_lengthen_b15 : Nat → St → Int32 → Int32 → Option St
  | 0, _, _, _ => none
  | n + 1, σ, x1, x2 => if (12 : Int32) ≤ x2 then (chk (2 ≤ σ.2.2.2.2 101) (chk (2 ≤ σ.2.2.2.2 102) (bnd (sR (sR σ 101 ((σ.2.2.2.2 102))) 102 ((σ.2.2.2.2 101))) (fun σ6 => some σ6)))) else (bnd2 (f_X5_parts σ x2 x1 (0 : Int32)) (fun r8 σ9 => f_X2_lengthen_b35 (f_X2_lengthen_b15 n) 256 σ9 x1 x2 r8 (0 : Int32)))
def f_X2_lengthen (σ : St) (p1 : Int32) : Option St := chk (2 ≤ σ.2.2.2.2 102) (bnd (sL σ 101 (σ.2.2.2.2 102) (fillL (σ.2.2.2.1 101 (σ.2.2.2.2 102)) 45 (0 : Int64))) (fun σ2 => f_X2_lengthen_b15 256 (sJ σ2 103 0 (0 : Int64)) p1 (0 : Int32)))
set_option maxHeartbeats 4000000 in
set_option maxRecDepth 100000 in
theorem w_X2_lengthen_b35 {p : Program} {l : Launch} {e : Env} {s : State} {m : MethodId} {args : Array Value} {below : List Frame} {meth : Method} {c : Code} {g : va_G} {ts : ClassId × ClassId × ClassId} {A : Nat → Prop} {Q : State → Prop} {a : Nat → Nat} {σ' : St} {k15 : St → Int32 → Int32 → Option St} (C : FX p s m args meth c RX2 cX2_lengthen 5 g ts A) (hQ : RetV p l e (rk 4 106) s m args below meth c cX2_lengthen g (WC ts a) A σ' Q) (hk15 : ∀ (σ : St) (x1 : Int32) (x2 : Int32) (H : Heap) (locs : List Loc) (ls : Array Slot), k15 σ x1 x2 = some σ' → va_P g classes (WC ts a σ) H → va_D A (WC ts a σ) → va_S A s.heap H locs → lv_has ls 5 [(0, .ref (a 17)), (1, .int x1), (2, .int x2)] → W p l e (rk 4 106) s m args below meth c H locs 0 0 Q (F0 m 15 ls [])) : ∀ (n : Nat) (σ : St) (x1 : Int32) (x2 : Int32) (x3 : Int32) (x4 : Int32) (H : Heap) (locs : List Loc) (ls : Array Slot), f_X2_lengthen_b35 k15 n σ x1 x2 x3 x4 = some σ' → va_P g classes (WC ts a σ) H → va_D A (WC ts a σ) → va_S A s.heap H locs → lv_has ls 5 [(0, .ref (a 17)), (1, .int x1), (2, .int x2), (3, .int x3), (4, .int x4)] → W p l e (rk 4 106) s m args below meth c H locs 0 0 Q (F0 m 35 ls []) := by
  have hx := C.1
  have hb := C.2.1
  have hown := C.2.2.2.1
  have hts := C.2.2.2.2.1
  intro n
  induction n with
  | zero =>
    intro σ x1 x2 x3 x4 H locs ls hf
    cases hf
  | succ n ih =>
    intro σ x1 x2 x3 x4 H locs ls hf hP hD hS hl
    rw [f_X2_lengthen_b35] at hf
    refine lv_iload_n hx hb dX2_lengthen_35 rfl (lv_at hl 3 rfl) ?_
    refine lv_if_eq (tgt := 95) hx hb dX2_lengthen_36 (by decide) (fun c10 => ?_) (fun c10 => ?_)
    · replace hf := ipos c10 hf
      obtain ⟨v11, ev11⟩ : ∃ z : Int32, z = x2 + 1 := ⟨_, rfl⟩
      replace hf := bnd_at ev11 hf
      refine lv_iinc (v := v11) (lv' := [(2, .int v11), (0, .ref (a 17)), (1, .int x1), (3, .int x3), (4, .int x4)]) hx hb dX2_lengthen_95 hl (k := 2) rfl (by rw [ev11]; rfl) (by decide) rfl (fun ls hl => ?_)
      refine lv_goto (tgt := 15) hx hb dX2_lengthen_98 (by decide) ?_
      exact hk15 _ _ _ _ _ _ hf hP hD hS (lv_sub hl [1, 2, 0] rfl)
    · replace hf := ineg c10 hf
      refine lv_iload hx hb dX2_lengthen_39 (lv_at hl 4 rfl) ?_
      refine lv_iload_n hx hb dX2_lengthen_41 rfl (lv_at hl 2 rfl) ?_
      refine lv_iadd hx hb dX2_lengthen_42 ?_
      refine lv_bipush (v := 44) hx hb dX2_lengthen_43 (by decide) ?_
      refine lv_icmp_gt (tgt := 95) hx hb dX2_lengthen_45 (by decide) (fun c12 => ?_) (fun c12 => ?_)
      · replace hf := ipos c12 hf
        obtain ⟨v13, ev13⟩ : ∃ z : Int32, z = x2 + 1 := ⟨_, rfl⟩
        replace hf := bnd_at ev13 hf
        refine lv_iinc (v := v13) (lv' := [(2, .int v13), (0, .ref (a 17)), (1, .int x1), (3, .int x3), (4, .int x4)]) hx hb dX2_lengthen_95 hl (k := 2) rfl (by rw [ev13]; rfl) (by decide) rfl (fun ls hl => ?_)
        refine lv_goto (tgt := 15) hx hb dX2_lengthen_98 (by decide) ?_
        exact hk15 _ _ _ _ _ _ hf hP hD hS (lv_sub hl [1, 2, 0] rfl)
      · replace hf := ineg c12 hf
        refine lv_aload_n hx hb dX2_lengthen_48 rfl (lv_at hl 0 rfl) ?_
        refine G_X2_longer C hP q_227 dX2_lengthen_49 ?_
        obtain ⟨h14, hf⟩ := chk_some hf
        refine lv_iload hx hb dX2_lengthen_52 (lv_at hl 4 rfl) ?_
        refine lv_iload_n hx hb dX2_lengthen_54 rfl (lv_at hl 2 rfl) ?_
        refine lv_iadd hx hb dX2_lengthen_55 ?_
        refine lv_dup2_11 hx hb dX2_lengthen_56 rfl rfl ?_
        obtain ⟨h15, hf⟩ := chk_some hf
        refine AL_X2_ways (Nat.not_le.mp h14) C hP h15 dX2_lengthen_57 ?_
        refine lv_aload_n hx hb dX2_lengthen_58 rfl (lv_at hl 0 rfl) ?_
        refine G_X2_ways C hP q_225 dX2_lengthen_59 ?_
        obtain ⟨h16, hf⟩ := chk_some hf
        refine lv_iload hx hb dX2_lengthen_62 (lv_at hl 4 rfl) ?_
        obtain ⟨h17, hf⟩ := chk_some hf
        refine AL_X2_ways (Nat.not_le.mp h16) C hP h17 dX2_lengthen_64 ?_
        refine lv_iload_n hx hb dX2_lengthen_65 rfl (lv_at hl 3 rfl) ?_
        refine lv_i2l (v := (x3 : Int32).toInt64) hx hb dX2_lengthen_66 rfl ?_
        refine lv_lmul hx hb dX2_lengthen_67 ?_
        refine lv_ladd hx hb dX2_lengthen_68 ?_
        obtain ⟨h18, hf⟩ := chk_some hf
        refine AS_X2_ways (Nat.not_le.mp h14) C hP hD hS h18 dX2_lengthen_69 (fun H locs hP hD hS => ?_)
        refine nameS hP hD hf (fun σ19 hP hD hf => ?_)
        refine lv_aload_n hx hb dX2_lengthen_70 rfl (lv_at hl 0 rfl) ?_
        refine lv_dup hx hb dX2_lengthen_71 rfl ?_
        refine G_X2_all C hP q_228 dX2_lengthen_72 ?_
        refine lv_aload_n hx hb dX2_lengthen_75 rfl (lv_at hl 0 rfl) ?_
        refine G_X2_ways C hP q_225 dX2_lengthen_76 ?_
        obtain ⟨h20, hf⟩ := chk_some hf
        refine lv_iload hx hb dX2_lengthen_79 (lv_at hl 4 rfl) ?_
        obtain ⟨h21, hf⟩ := chk_some hf
        refine AL_X2_ways (Nat.not_le.mp h20) C hP h21 dX2_lengthen_81 ?_
        refine lv_iload_n hx hb dX2_lengthen_82 rfl (lv_at hl 3 rfl) ?_
        refine lv_i2l (v := (x3 : Int32).toInt64) hx hb dX2_lengthen_83 rfl ?_
        refine lv_lmul hx hb dX2_lengthen_84 ?_
        refine lv_ladd hx hb dX2_lengthen_85 ?_
        refine S_X2_all C hP hD hS q_228 dX2_lengthen_86 (fun H locs hP hD hS => ?_)
        refine nameS hP hD hf (fun σ22 hP hD hf => ?_)
        obtain ⟨v23, ev23⟩ : ∃ z : Int32, z = x4 + 1 := ⟨_, rfl⟩
        replace hf := bnd_at ev23 hf
        refine lv_iinc (v := v23) (lv' := [(4, .int v23), (0, .ref (a 17)), (1, .int x1), (2, .int x2), (3, .int x3)]) hx hb dX2_lengthen_89 hl (k := 4) rfl (by rw [ev23]; rfl) (by decide) rfl (fun ls hl => ?_)
        refine lv_goto (tgt := 35) hx hb dX2_lengthen_92 (by decide) ?_
        exact ih _ _ _ _ _ _ _ _ hf hP hD hS (lv_sub hl [1, 2, 3, 4, 0] rfl)
set_option maxHeartbeats 4000000 in
set_option maxRecDepth 100000 in
theorem w_X2_lengthen_b15 {p : Program} {l : Launch} {e : Env} {s : State} {m : MethodId} {args : Array Value} {below : List Frame} {meth : Method} {c : Code} {g : va_G} {ts : ClassId × ClassId × ClassId} {A : Nat → Prop} {Q : State → Prop} {a : Nat → Nat} {σ' : St} (C : FX p s m args meth c RX2 cX2_lengthen 5 g ts A) (hQ : RetV p l e (rk 4 106) s m args below meth c cX2_lengthen g (WC ts a) A σ' Q) : ∀ (n : Nat) (σ : St) (x1 : Int32) (x2 : Int32) (H : Heap) (locs : List Loc) (ls : Array Slot), f_X2_lengthen_b15 n σ x1 x2 = some σ' → va_P g classes (WC ts a σ) H → va_D A (WC ts a σ) → va_S A s.heap H locs → lv_has ls 5 [(0, .ref (a 17)), (1, .int x1), (2, .int x2)] → W p l e (rk 4 106) s m args below meth c H locs 0 0 Q (F0 m 15 ls []) := by
  have hx := C.1
  have hb := C.2.1
  have hown := C.2.2.2.1
  have hts := C.2.2.2.2.1
  intro n
  induction n with
  | zero =>
    intro σ x1 x2 H locs ls hf
    cases hf
  | succ n ih =>
    intro σ x1 x2 H locs ls hf hP hD hS hl
    rw [f_X2_lengthen_b15] at hf
    refine lv_iload_n hx hb dX2_lengthen_15 rfl (lv_at hl 2 rfl) ?_
    refine lv_bipush (v := 12) hx hb dX2_lengthen_16 (by decide) ?_
    refine lv_icmp_ge (tgt := 101) hx hb dX2_lengthen_18 (by decide) (fun c3 => ?_) (fun c3 => ?_)
    · replace hf := ipos c3 hf
      refine lv_aload_n hx hb dX2_lengthen_101 rfl (lv_at hl 0 rfl) ?_
      refine G_X2_ways C hP q_225 dX2_lengthen_102 ?_
      obtain ⟨h4, hf⟩ := chk_some hf
      refine lv_astore_n (lv' := [(2, .ref (a (18 + (σ.2.2.2.2 101)))), (0, .ref (a 17)), (1, .int x1)]) hx hb dX2_lengthen_105 rfl hl (by decide) rfl (fun ls hl => ?_)
      refine lv_aload_n hx hb dX2_lengthen_106 rfl (lv_at hl 1 rfl) ?_
      refine lv_aload_n hx hb dX2_lengthen_107 rfl (lv_at hl 1 rfl) ?_
      refine G_X2_longer C hP q_227 dX2_lengthen_108 ?_
      obtain ⟨h5, hf⟩ := chk_some hf
      refine S_X2_ways C hP hD hS q_225 dX2_lengthen_111 (fun H locs hP hD hS => ?_)
      refine lv_aload_n hx hb dX2_lengthen_114 rfl (lv_at hl 1 rfl) ?_
      refine lv_aload_n hx hb dX2_lengthen_115 rfl (lv_at hl 0 rfl) ?_
      refine S_X2_longer C hP hD hS q_227 dX2_lengthen_116 (fun H locs hP hD hS => ?_)
      refine nameS hP hD hf (fun σ6 hP hD hf => ?_)
      exact retV hQ hf dX2_lengthen_119 hP hD hS
    · replace hf := ineg c3 hf
      refine lv_aload_n hx hb dX2_lengthen_21 rfl (lv_at hl 0 rfl) ?_
      refine G_X2_line C hP q_224 dX2_lengthen_22 ?_
      refine lv_iload_n hx hb dX2_lengthen_25 rfl (lv_at hl 2 rfl) ?_
      refine lv_iload_n hx hb dX2_lengthen_26 rfl (lv_at hl 1 rfl) ?_
      refine lv_iconst (v := 0) hx hb dX2_lengthen_27 (by decide) ?_
      obtain ⟨r8, σ9, h7, hf⟩ := bnd2_some hf
      refine vI [] C hP hD hS (c_X5_parts h7) mv_X5_parts q_840 rv_X5 dX2_lengthen_28 ⟨Nat.le_of_ble_eq_true rfl, Nat.le_of_ble_eq_true rfl⟩ ⟨Nat.zero_le _, Nat.zero_le _⟩ rfl rfl (Nat.le_of_ble_eq_true rfl) hl.1 (fun H locs hP hD hS => ?_)
      refine lv_istore_n (lv' := [(3, .int r8), (0, .ref (a 17)), (1, .int x1), (2, .int x2)]) hx hb dX2_lengthen_31 rfl hl (by decide) rfl (fun ls hl => ?_)
      refine lv_iconst (v := 0) hx hb dX2_lengthen_32 (by decide) ?_
      refine lv_istore (lv' := [(4, .int (0 : Int32)), (3, .int r8), (0, .ref (a 17)), (1, .int x1), (2, .int x2)]) hx hb dX2_lengthen_33 hl (by decide) rfl (fun ls hl => ?_)
      exact w_X2_lengthen_b35 C hQ ih 256 _ _ _ _ _ _ _ _ hf hP hD hS (lv_sub hl [2, 3, 4, 1, 0] rfl)
set_option maxHeartbeats 4000000 in
set_option maxRecDepth 100000 in
theorem c_X2_lengthen {l : Launch} {g : va_G} {ts : ClassId × ClassId × ClassId} {a : Nat → Nat} {σ : St} {p1 : Int32} {σ' : St} (hf : f_X2_lengthen σ p1 = some σ') : ConV l g ts (WC ts a) yX2_lengthen cX2_lengthen 5 none (rk 4 106) σ [.ref (a 17), .int p1] σ' := by
  refine ConV_mk rfl rfl (by decide) (Nat.le_of_ble_eq_true rfl) ?_
  intro p e s m below meth c A Q ls C hQ hP hD hS hl
  have C : FX p s m _ meth c RX2 cX2_lengthen 5 g ts A := C
  have hx := C.1
  have hb := C.2.1
  have hown := C.2.2.2.1
  have hts := C.2.2.2.2.1
  have hl : lv_has ls 5 [(0, .ref (a 17)), (1, .int p1)] := hl
  rw [f_X2_lengthen] at hf
  refine lv_aload_n hx hb dX2_lengthen_0 rfl (lv_at hl 0 rfl) ?_
  refine G_X2_longer C hP q_227 dX2_lengthen_1 ?_
  obtain ⟨h1, hf⟩ := chk_some hf
  refine lv_lconst (v := 0) hx hb dX2_lengthen_4 (by decide) ?_
  refine tV [] C hP hD hS (c_fillL (arr_X2_ways (Nat.not_le.mp h1)) (aput_X2_ways (Nat.not_le.mp h1)) (Nat.le_of_ble_eq_true rfl)) ms_fillL q_832 dX2_lengthen_5 ⟨Nat.le_of_ble_eq_true rfl, Nat.le_of_ble_eq_true rfl⟩ ⟨Nat.zero_le _, Nat.zero_le _⟩ rfl rfl (Nat.le_of_ble_eq_true rfl) hl.1 (fun H locs hP hD hS => ?_)
  refine nameS hP hD hf (fun σ2 hP hD hf => ?_)
  refine lv_aload_n hx hb dX2_lengthen_8 rfl (lv_at hl 0 rfl) ?_
  refine lv_lconst (v := 0) hx hb dX2_lengthen_9 (by decide) ?_
  refine S_X2_all C hP hD hS q_228 dX2_lengthen_10 (fun H locs hP hD hS => ?_)
  refine lv_iconst (v := 0) hx hb dX2_lengthen_13 (by decide) ?_
  refine lv_istore_n (lv' := [(2, .int (0 : Int32)), (0, .ref (a 17)), (1, .int p1)]) hx hb dX2_lengthen_14 rfl hl (by decide) rfl (fun ls hl => ?_)
  exact w_X2_lengthen_b15 C hQ 256 _ _ _ _ _ _ hf hP hD hS (lv_sub hl [1, 2, 0] rfl)
theorem dX2_weigh_0 : decode cX2_weigh 0 = .ok (.aload_n 0, 1) := by decide +kernel
theorem dX2_weigh_1 : decode cX2_weigh 1 = .ok (.getfield 11, 3) := by decide +kernel
theorem dX2_weigh_4 : decode cX2_weigh 4 = .ok (.lconst 0, 1) := by decide +kernel
theorem dX2_weigh_5 : decode cX2_weigh 5 = .ok (.invokestatic 22, 3) := by decide +kernel
theorem dX2_weigh_8 : decode cX2_weigh 8 = .ok (.aload_n 0, 1) := by decide +kernel
theorem dX2_weigh_9 : decode cX2_weigh 9 = .ok (.getfield 11, 3) := by decide +kernel
theorem dX2_weigh_12 : decode cX2_weigh 12 = .ok (.iconst 0, 1) := by decide +kernel
theorem dX2_weigh_13 : decode cX2_weigh 13 = .ok (.lconst 1, 1) := by decide +kernel
theorem dX2_weigh_14 : decode cX2_weigh 14 = .ok (.lastore, 1) := by decide +kernel
theorem dX2_weigh_15 : decode cX2_weigh 15 = .ok (.aload_n 0, 1) := by decide +kernel
theorem dX2_weigh_16 : decode cX2_weigh 16 = .ok (.lconst 1, 1) := by decide +kernel
theorem dX2_weigh_17 : decode cX2_weigh 17 = .ok (.putfield 28, 3) := by decide +kernel
theorem dX2_weigh_20 : decode cX2_weigh 20 = .ok (.iconst 0, 1) := by decide +kernel
theorem dX2_weigh_21 : decode cX2_weigh 21 = .ok (.istore_n 2, 1) := by decide +kernel
theorem dX2_weigh_22 : decode cX2_weigh 22 = .ok (.iload_n 2, 1) := by decide +kernel
theorem dX2_weigh_23 : decode cX2_weigh 23 = .ok (.iconst 4, 1) := by decide +kernel
theorem dX2_weigh_24 : decode cX2_weigh 24 = .ok (.if_icmp .ge 35, 3) := by decide +kernel
theorem dX2_weigh_27 : decode cX2_weigh 27 = .ok (.iload_n 2, 1) := by decide +kernel
theorem dX2_weigh_28 : decode cX2_weigh 28 = .ok (.aload_n 1, 1) := by decide +kernel
theorem dX2_weigh_29 : decode cX2_weigh 29 = .ok (.getfield 32, 3) := by decide +kernel
theorem dX2_weigh_32 : decode cX2_weigh 32 = .ok (.if_icmp .ge 27, 3) := by decide +kernel
theorem dX2_weigh_35 : decode cX2_weigh 35 = .ok (.aload_n 1, 1) := by decide +kernel
theorem dX2_weigh_36 : decode cX2_weigh 36 = .ok (.iload_n 2, 1) := by decide +kernel
theorem dX2_weigh_37 : decode cX2_weigh 37 = .ok (.invokevirtual 38, 3) := by decide +kernel
theorem dX2_weigh_40 : decode cX2_weigh 40 = .ok (.istore_n 3, 1) := by decide +kernel
theorem dX2_weigh_41 : decode cX2_weigh 41 = .ok (.iload_n 3, 1) := by decide +kernel
theorem dX2_weigh_42 : decode cX2_weigh 42 = .ok (.ifCond .ge 6, 3) := by decide +kernel
theorem dX2_weigh_45 : decode cX2_weigh 45 = .ok (.goto 14, 3) := by decide +kernel
theorem dX2_weigh_48 : decode cX2_weigh 48 = .ok (.aload_n 0, 1) := by decide +kernel
theorem dX2_weigh_49 : decode cX2_weigh 49 = .ok (.iload_n 3, 1) := by decide +kernel
theorem dX2_weigh_50 : decode cX2_weigh 50 = .ok (.invokevirtual 42, 3) := by decide +kernel
theorem dX2_weigh_53 : decode cX2_weigh 53 = .ok (.iinc 2 1, 3) := by decide +kernel
theorem dX2_weigh_56 : decode cX2_weigh 56 = .ok (.goto (-34), 3) := by decide +kernel
theorem dX2_weigh_59 : decode cX2_weigh 59 = .ok (.return_, 1) := by decide +kernel
def f_X2_weigh_b22 : Nat → St → Nat → Int32 → Option St
  | 0, _, _, _ => none
  | n + 1, σ, o0, x2 => if (4 : Int32) ≤ x2 then (some σ) else (if σ.1 403 o0 ≤ x2 then (some σ) else (bnd2 (f_X8_letterAt σ o0 x2) (fun r8 σ9 => if 0 ≤ r8 then (bnd1 (f_X2_lengthen σ9 r8) (fun σ12 => bnd (x2 + 1) (fun v13 => f_X2_weigh_b22 n σ12 o0 v13))) else (some σ9))))
def f_X2_weigh (σ : St) (i1 : Nat) : Option St := chk (2 ≤ σ.2.2.2.2 101) (bnd (sL σ 101 (σ.2.2.2.2 101) (fillL (σ.2.2.2.1 101 (σ.2.2.2.2 101)) 45 (0 : Int64))) (fun σ2 => chk (2 ≤ σ2.2.2.2.2 101) (bnd (sL σ2 101 (σ2.2.2.2.2 101) (vp_updL (σ2.2.2.2.1 101 (σ2.2.2.2.2 101)) (0 : Int32).toNatClampNeg (1 : Int64))) (fun σ4 => f_X2_weigh_b22 256 (sJ σ4 103 0 (1 : Int64)) i1 (0 : Int32)))))
set_option maxHeartbeats 4000000 in
set_option maxRecDepth 100000 in
theorem w_X2_weigh_b22 {p : Program} {l : Launch} {e : Env} {s : State} {m : MethodId} {args : Array Value} {below : List Frame} {meth : Method} {c : Code} {g : va_G} {ts : ClassId × ClassId × ClassId} {A : Nat → Prop} {Q : State → Prop} {a : Nat → Nat} {σ' : St} (C : FX p s m args meth c RX2 cX2_weigh 4 g ts A) (hQ : RetV p l e (rk 5 130) s m args below meth c cX2_weigh g (WC ts a) A σ' Q) : ∀ (n : Nat) (σ : St) (o0 : Nat) (x2 : Int32) (H : Heap) (locs : List Loc) (ls : Array Slot), f_X2_weigh_b22 n σ o0 x2 = some σ' → va_P g classes (WC ts a σ) H → va_D A (WC ts a σ) → va_S A s.heap H locs → o0 < 6 → lv_has ls 4 [(0, .ref (a 17)), (1, .ref (a (36 + 2 * o0))), (2, .int x2)] → W p l e (rk 5 130) s m args below meth c H locs 0 0 Q (F0 m 22 ls []) := by
  have hx := C.1
  have hb := C.2.1
  have hown := C.2.2.2.1
  have hts := C.2.2.2.2.1
  intro n
  induction n with
  | zero =>
    intro σ o0 x2 H locs ls hf
    cases hf
  | succ n ih =>
    intro σ o0 x2 H locs ls hf hP hD hS ho0 hl
    rw [f_X2_weigh_b22] at hf
    refine lv_iload_n hx hb dX2_weigh_22 rfl (lv_at hl 2 rfl) ?_
    refine lv_iconst (v := 4) hx hb dX2_weigh_23 (by decide) ?_
    refine lv_icmp_ge (tgt := 59) hx hb dX2_weigh_24 (by decide) (fun c5 => ?_) (fun c5 => ?_)
    · replace hf := ipos c5 hf
      exact retV hQ hf dX2_weigh_59 hP hD hS
    · replace hf := ineg c5 hf
      refine lv_iload_n hx hb dX2_weigh_27 rfl (lv_at hl 2 rfl) ?_
      refine lv_aload_n hx hb dX2_weigh_28 rfl (lv_at hl 1 rfl) ?_
      refine G_X8_length ho0 C hP q_368 dX2_weigh_29 ?_
      refine lv_icmp_ge (tgt := 59) hx hb dX2_weigh_32 (by decide) (fun c6 => ?_) (fun c6 => ?_)
      · replace hf := ipos c6 hf
        exact retV hQ hf dX2_weigh_59 hP hD hS
      · replace hf := ineg c6 hf
        refine lv_aload_n hx hb dX2_weigh_35 rfl (lv_at hl 1 rfl) ?_
        refine lv_iload_n hx hb dX2_weigh_36 rfl (lv_at hl 2 rfl) ?_
        obtain ⟨r8, σ9, h7, hf⟩ := bnd2_some hf
        refine vI [] C hP hD hS (c_X8_letterAt ho0 h7) mv_X8_letterAt q_835 (rv_X8 ho0) dX2_weigh_37 ⟨Nat.le_of_ble_eq_true rfl, Nat.le_of_ble_eq_true rfl⟩ ⟨Nat.zero_le _, Nat.zero_le _⟩ rfl rfl (Nat.le_of_ble_eq_true rfl) hl.1 (fun H locs hP hD hS => ?_)
        refine lv_istore_n (lv' := [(3, .int r8), (0, .ref (a 17)), (1, .ref (a (36 + 2 * o0))), (2, .int x2)]) hx hb dX2_weigh_40 rfl hl (by decide) rfl (fun ls hl => ?_)
        refine lv_iload_n hx hb dX2_weigh_41 rfl (lv_at hl 0 rfl) ?_
        refine lv_if_ge (tgt := 48) hx hb dX2_weigh_42 (by decide) (fun c10 => ?_) (fun c10 => ?_)
        · replace hf := ipos c10 hf
          refine lv_aload_n hx hb dX2_weigh_48 rfl (lv_at hl 1 rfl) ?_
          refine lv_iload_n hx hb dX2_weigh_49 rfl (lv_at hl 0 rfl) ?_
          obtain ⟨σ12, h11, hf⟩ := bnd1_some hf
          refine vV [] C hP hD hS (c_X2_lengthen h11) mv_X2_lengthen q_836 rv_X2 dX2_weigh_50 ⟨Nat.le_of_ble_eq_true rfl, Nat.le_of_ble_eq_true rfl⟩ ⟨Nat.zero_le _, Nat.zero_le _⟩ rfl rfl (Nat.le_of_ble_eq_true rfl) hl.1 (fun H locs hP hD hS => ?_)
          obtain ⟨v13, ev13⟩ : ∃ z : Int32, z = x2 + 1 := ⟨_, rfl⟩
          replace hf := bnd_at ev13 hf
          refine lv_iinc (v := v13) (lv' := [(2, .int v13), (3, .int r8), (0, .ref (a 17)), (1, .ref (a (36 + 2 * o0)))]) hx hb dX2_weigh_53 hl (k := 3) rfl (by rw [ev13]; rfl) (by decide) rfl (fun ls hl => ?_)
          refine lv_goto (tgt := 22) hx hb dX2_weigh_56 (by decide) ?_
          exact ih _ _ _ _ _ _ hf hP hD hS ho0 (lv_sub hl [2, 3, 0] rfl)
        · replace hf := ineg c10 hf
          refine lv_goto (tgt := 59) hx hb dX2_weigh_45 (by decide) ?_
          exact retV hQ hf dX2_weigh_59 hP hD hS
set_option maxHeartbeats 4000000 in
set_option maxRecDepth 100000 in
theorem c_X2_weigh {l : Launch} {g : va_G} {ts : ClassId × ClassId × ClassId} {a : Nat → Nat} {σ : St} {i1 : Nat} {σ' : St} (hi1 : i1 < 6) (hf : f_X2_weigh σ i1 = some σ') : ConV l g ts (WC ts a) yX2_weigh cX2_weigh 4 none (rk 5 130) σ [.ref (a 17), .ref (a (36 + 2 * i1))] σ' := by
  refine ConV_mk rfl rfl (by decide) (Nat.le_of_ble_eq_true rfl) ?_
  intro p e s m below meth c A Q ls C hQ hP hD hS hl
  have C : FX p s m _ meth c RX2 cX2_weigh 4 g ts A := C
  have hx := C.1
  have hb := C.2.1
  have hown := C.2.2.2.1
  have hts := C.2.2.2.2.1
  have hl : lv_has ls 4 [(0, .ref (a 17)), (1, .ref (a (36 + 2 * i1)))] := hl
  rw [f_X2_weigh] at hf
  refine lv_aload_n hx hb dX2_weigh_0 rfl (lv_at hl 0 rfl) ?_
  refine G_X2_ways C hP q_225 dX2_weigh_1 ?_
  obtain ⟨h1, hf⟩ := chk_some hf
  refine lv_lconst (v := 0) hx hb dX2_weigh_4 (by decide) ?_
  refine tV [] C hP hD hS (c_fillL (arr_X2_ways (Nat.not_le.mp h1)) (aput_X2_ways (Nat.not_le.mp h1)) (Nat.le_of_ble_eq_true rfl)) ms_fillL q_832 dX2_weigh_5 ⟨Nat.le_of_ble_eq_true rfl, Nat.le_of_ble_eq_true rfl⟩ ⟨Nat.zero_le _, Nat.zero_le _⟩ rfl rfl (Nat.le_of_ble_eq_true rfl) hl.1 (fun H locs hP hD hS => ?_)
  refine nameS hP hD hf (fun σ2 hP hD hf => ?_)
  refine lv_aload_n hx hb dX2_weigh_8 rfl (lv_at hl 0 rfl) ?_
  refine G_X2_ways C hP q_225 dX2_weigh_9 ?_
  obtain ⟨h3, hf⟩ := chk_some hf
  refine lv_iconst (v := 0) hx hb dX2_weigh_12 (by decide) ?_
  refine lv_lconst (v := 1) hx hb dX2_weigh_13 (by decide) ?_
  refine AS_X2_ways (Nat.not_le.mp h3) C hP hD hS (by decide) dX2_weigh_14 (fun H locs hP hD hS => ?_)
  refine nameS hP hD hf (fun σ4 hP hD hf => ?_)
  refine lv_aload_n hx hb dX2_weigh_15 rfl (lv_at hl 0 rfl) ?_
  refine lv_lconst (v := 1) hx hb dX2_weigh_16 (by decide) ?_
  refine S_X2_all C hP hD hS q_228 dX2_weigh_17 (fun H locs hP hD hS => ?_)
  refine lv_iconst (v := 0) hx hb dX2_weigh_20 (by decide) ?_
  refine lv_istore_n (lv' := [(2, .int (0 : Int32)), (0, .ref (a 17)), (1, .ref (a (36 + 2 * i1)))]) hx hb dX2_weigh_21 rfl hl (by decide) rfl (fun ls hl => ?_)
  exact w_X2_weigh_b22 C hQ 256 _ _ _ _ _ _ hf hP hD hS hi1 (lv_sub hl [1, 2, 0] rfl)
