theorem mv_X5_workOut : MV yX5_workOut cX5_workOut 10 none 2 := ⟨q_668, q_10, q_59, q_669, by decide +kernel, by decide +kernel, by decide +kernel⟩
theorem mv_X5_total : MV yX5_total cX5_total 3 (some .int) 2 := ⟨q_663, q_664, q_59, q_665, by decide +kernel, by decide +kernel, by decide +kernel⟩
theorem mv_X5_weight : MV yX5_weight cX5_weight 4 (some .int) 3 := ⟨q_683, q_684, q_59, q_685, by decide +kernel, by decide +kernel, by decide +kernel⟩
theorem mv_X5_heardBy : MV yX5_heardBy cX5_heardBy 7 (some .int) 3 := ⟨q_889, q_890, q_59, q_891, by decide +kernel, by decide +kernel, by decide +kernel⟩
theorem mv_X5_parts : MV yX5_parts cX5_parts 5 (some .int) 3 := ⟨q_702, q_703, q_59, q_704, by decide +kernel, by decide +kernel, by decide +kernel⟩
theorem mv_X5_likenTo : MV yX5_likenTo cX5_likenTo 5 none 3 := ⟨q_485, q_486, q_59, q_487, by decide +kernel, by decide +kernel, by decide +kernel⟩
theorem mv_X5_makeNoise : MV yX5_makeNoise cX5_makeNoise 2 none 1 := ⟨q_489, q_490, q_59, q_491, by decide +kernel, by decide +kernel, by decide +kernel⟩
theorem dX5_workOut_0 : decode cX5_workOut 0 = .ok (.iload_n 2, 1) := by decide +kernel
theorem dX5_workOut_1 : decode cX5_workOut 1 = .ok (.bipush 12, 2) := by decide +kernel
theorem dX5_workOut_3 : decode cX5_workOut 3 = .ok (.imul, 1) := by decide +kernel
theorem dX5_workOut_4 : decode cX5_workOut 4 = .ok (.iload_n 1, 1) := by decide +kernel
theorem dX5_workOut_5 : decode cX5_workOut 5 = .ok (.iadd, 1) := by decide +kernel
theorem dX5_workOut_6 : decode cX5_workOut 6 = .ok (.istore_n 3, 1) := by decide +kernel
theorem dX5_workOut_7 : decode cX5_workOut 7 = .ok (.aload_n 0, 1) := by decide +kernel
theorem dX5_workOut_8 : decode cX5_workOut 8 = .ok (.getfield 35, 3) := by decide +kernel
theorem dX5_workOut_11 : decode cX5_workOut 11 = .ok (.iload_n 3, 1) := by decide +kernel
theorem dX5_workOut_12 : decode cX5_workOut 12 = .ok (.iaload, 1) := by decide +kernel
theorem dX5_workOut_13 : decode cX5_workOut 13 = .ok (.ifCond .lt 4, 3) := by decide +kernel
theorem dX5_workOut_16 : decode cX5_workOut 16 = .ok (.return_, 1) := by decide +kernel
theorem dX5_workOut_17 : decode cX5_workOut 17 = .ok (.iconst 0, 1) := by decide +kernel
theorem dX5_workOut_18 : decode cX5_workOut 18 = .ok (.istore 4, 2) := by decide +kernel
theorem dX5_workOut_20 : decode cX5_workOut 20 = .ok (.iconst 0, 1) := by decide +kernel
theorem dX5_workOut_21 : decode cX5_workOut 21 = .ok (.istore 5, 2) := by decide +kernel
theorem dX5_workOut_23 : decode cX5_workOut 23 = .ok (.iload 5, 2) := by decide +kernel
theorem dX5_workOut_25 : decode cX5_workOut 25 = .ok (.bipush 12, 2) := by decide +kernel
theorem dX5_workOut_27 : decode cX5_workOut 27 = .ok (.if_icmp .ge 130, 3) := by decide +kernel
theorem dX5_workOut_30 : decode cX5_workOut 30 = .ok (.aload_n 0, 1) := by decide +kernel
theorem dX5_workOut_31 : decode cX5_workOut 31 = .ok (.getfield 9, 3) := by decide +kernel
theorem dX5_workOut_34 : decode cX5_workOut 34 = .ok (.iload_n 1, 1) := by decide +kernel
theorem dX5_workOut_35 : decode cX5_workOut 35 = .ok (.bipush 12, 2) := by decide +kernel
theorem dX5_workOut_37 : decode cX5_workOut 37 = .ok (.imul, 1) := by decide +kernel
theorem dX5_workOut_38 : decode cX5_workOut 38 = .ok (.iload 5, 2) := by decide +kernel
theorem dX5_workOut_40 : decode cX5_workOut 40 = .ok (.iadd, 1) := by decide +kernel
theorem dX5_workOut_41 : decode cX5_workOut 41 = .ok (.iaload, 1) := by decide +kernel
theorem dX5_workOut_42 : decode cX5_workOut 42 = .ok (.istore 6, 2) := by decide +kernel
theorem dX5_workOut_44 : decode cX5_workOut 44 = .ok (.iload_n 1, 1) := by decide +kernel
theorem dX5_workOut_45 : decode cX5_workOut 45 = .ok (.iload 5, 2) := by decide +kernel
theorem dX5_workOut_47 : decode cX5_workOut 47 = .ok (.if_icmp .ne 7, 3) := by decide +kernel
theorem dX5_workOut_50 : decode cX5_workOut 50 = .ok (.iconst 1, 1) := by decide +kernel
theorem dX5_workOut_51 : decode cX5_workOut 51 = .ok (.goto 4, 3) := by decide +kernel
theorem dX5_workOut_54 : decode cX5_workOut 54 = .ok (.iconst 0, 1) := by decide +kernel
theorem dX5_workOut_55 : decode cX5_workOut 55 = .ok (.istore 7, 2) := by decide +kernel
theorem dX5_workOut_57 : decode cX5_workOut 57 = .ok (.aload_n 0, 1) := by decide +kernel
theorem dX5_workOut_58 : decode cX5_workOut 58 = .ok (.getfield 44, 3) := by decide +kernel
theorem dX5_workOut_61 : decode cX5_workOut 61 = .ok (.ifnonnull 23, 3) := by decide +kernel
theorem dX5_workOut_64 : decode cX5_workOut 64 = .ok (.iload 7, 2) := by decide +kernel
theorem dX5_workOut_66 : decode cX5_workOut 66 = .ok (.bipush 9, 2) := by decide +kernel
theorem dX5_workOut_68 : decode cX5_workOut 68 = .ok (.imul, 1) := by decide +kernel
theorem dX5_workOut_69 : decode cX5_workOut 69 = .ok (.iload 6, 2) := by decide +kernel
theorem dX5_workOut_71 : decode cX5_workOut 71 = .ok (.aload_n 0, 1) := by decide +kernel
theorem dX5_workOut_72 : decode cX5_workOut 72 = .ok (.getfield 21, 3) := by decide +kernel
theorem dX5_workOut_75 : decode cX5_workOut 75 = .ok (.imul, 1) := by decide +kernel
theorem dX5_workOut_76 : decode cX5_workOut 76 = .ok (.iadd, 1) := by decide +kernel
theorem dX5_workOut_77 : decode cX5_workOut 77 = .ok (.iconst 2, 1) := by decide +kernel
theorem dX5_workOut_78 : decode cX5_workOut 78 = .ok (.iload_n 2, 1) := by decide +kernel
theorem dX5_workOut_79 : decode cX5_workOut 79 = .ok (.imul, 1) := by decide +kernel
theorem dX5_workOut_80 : decode cX5_workOut 80 = .ok (.isub, 1) := by decide +kernel
theorem dX5_workOut_81 : decode cX5_workOut 81 = .ok (.goto 22, 3) := by decide +kernel
theorem dX5_workOut_84 : decode cX5_workOut 84 = .ok (.aload_n 0, 1) := by decide +kernel
theorem dX5_workOut_85 : decode cX5_workOut 85 = .ok (.getfield 44, 3) := by decide +kernel
theorem dX5_workOut_88 : decode cX5_workOut 88 = .ok (.iload 6, 2) := by decide +kernel
theorem dX5_workOut_90 : decode cX5_workOut 90 = .ok (.aload_n 0, 1) := by decide +kernel
theorem dX5_workOut_91 : decode cX5_workOut 91 = .ok (.getfield 21, 3) := by decide +kernel
theorem dX5_workOut_94 : decode cX5_workOut 94 = .ok (.iload 7, 2) := by decide +kernel
theorem dX5_workOut_96 : decode cX5_workOut 96 = .ok (.iload_n 1, 1) := by decide +kernel
theorem dX5_workOut_97 : decode cX5_workOut 97 = .ok (.iload 5, 2) := by decide +kernel
theorem dX5_workOut_99 : decode cX5_workOut 99 = .ok (.iload_n 2, 1) := by decide +kernel
theorem dX5_workOut_100 : decode cX5_workOut 100 = .ok (.invokevirtual 51, 3) := by decide +kernel
theorem dX5_workOut_103 : decode cX5_workOut 103 = .ok (.istore 8, 2) := by decide +kernel
theorem dX5_workOut_105 : decode cX5_workOut 105 = .ok (.iload 8, 2) := by decide +kernel
theorem dX5_workOut_107 : decode cX5_workOut 107 = .ok (.ifCond .ge 7, 3) := by decide +kernel
theorem dX5_workOut_110 : decode cX5_workOut 110 = .ok (.iconst 0, 1) := by decide +kernel
theorem dX5_workOut_111 : decode cX5_workOut 111 = .ok (.goto 17, 3) := by decide +kernel
theorem dX5_workOut_114 : decode cX5_workOut 114 = .ok (.iload 8, 2) := by decide +kernel
theorem dX5_workOut_116 : decode cX5_workOut 116 = .ok (.bipush 99, 2) := by decide +kernel
theorem dX5_workOut_118 : decode cX5_workOut 118 = .ok (.if_icmp .le 8, 3) := by decide +kernel
theorem dX5_workOut_121 : decode cX5_workOut 121 = .ok (.bipush 99, 2) := by decide +kernel
theorem dX5_workOut_123 : decode cX5_workOut 123 = .ok (.goto 5, 3) := by decide +kernel
theorem dX5_workOut_126 : decode cX5_workOut 126 = .ok (.iload 8, 2) := by decide +kernel
theorem dX5_workOut_128 : decode cX5_workOut 128 = .ok (.istore 9, 2) := by decide +kernel
theorem dX5_workOut_130 : decode cX5_workOut 130 = .ok (.aload_n 0, 1) := by decide +kernel
theorem dX5_workOut_131 : decode cX5_workOut 131 = .ok (.getfield 32, 3) := by decide +kernel
theorem dX5_workOut_134 : decode cX5_workOut 134 = .ok (.iload_n 3, 1) := by decide +kernel
theorem dX5_workOut_135 : decode cX5_workOut 135 = .ok (.bipush 12, 2) := by decide +kernel
theorem dX5_workOut_137 : decode cX5_workOut 137 = .ok (.imul, 1) := by decide +kernel
theorem dX5_workOut_138 : decode cX5_workOut 138 = .ok (.iload 5, 2) := by decide +kernel
theorem dX5_workOut_140 : decode cX5_workOut 140 = .ok (.iadd, 1) := by decide +kernel
theorem dX5_workOut_141 : decode cX5_workOut 141 = .ok (.iload 9, 2) := by decide +kernel
theorem dX5_workOut_143 : decode cX5_workOut 143 = .ok (.iastore, 1) := by decide +kernel
theorem dX5_workOut_144 : decode cX5_workOut 144 = .ok (.iload 4, 2) := by decide +kernel
theorem dX5_workOut_146 : decode cX5_workOut 146 = .ok (.iload 9, 2) := by decide +kernel
theorem dX5_workOut_148 : decode cX5_workOut 148 = .ok (.iadd, 1) := by decide +kernel
theorem dX5_workOut_149 : decode cX5_workOut 149 = .ok (.istore 4, 2) := by decide +kernel
theorem dX5_workOut_151 : decode cX5_workOut 151 = .ok (.iinc 5 1, 3) := by decide +kernel
theorem dX5_workOut_154 : decode cX5_workOut 154 = .ok (.goto (-131), 3) := by decide +kernel
theorem dX5_workOut_157 : decode cX5_workOut 157 = .ok (.aload_n 0, 1) := by decide +kernel
theorem dX5_workOut_158 : decode cX5_workOut 158 = .ok (.getfield 35, 3) := by decide +kernel
theorem dX5_workOut_161 : decode cX5_workOut 161 = .ok (.iload_n 3, 1) := by decide +kernel
theorem dX5_workOut_162 : decode cX5_workOut 162 = .ok (.iload 4, 2) := by decide +kernel
theorem dX5_workOut_164 : decode cX5_workOut 164 = .ok (.iastore, 1) := by decide +kernel
theorem dX5_workOut_165 : decode cX5_workOut 165 = .ok (.return_, 1) := by decide +kernel
def f_X5_workOut_b128 (k23 : St → Int32 → Int32 → Int32 → Int32 → Int32 → Option St) (σ : St) (x1 : Int32) (x2 : Int32) (x3 : Int32) (x4 : Int32) (x5 : Int32) (s0 : Int32) : Option St := chk ((x3 * (12 : Int32)) + x5 < 0 ∨ 1440 ≤ ((x3 * (12 : Int32)) + x5).toNatClampNeg) (bnd (sA σ 256 0 (upd (σ.2.2.1 256 0) ((x3 * (12 : Int32)) + x5).toNatClampNeg s0)) (fun σ17 => bnd (x4 + s0) (fun v18 => bnd (x5 + 1) (fun v19 => k23 σ17 x1 x2 x3 v18 v19))))
def f_X5_workOut_b103 (k23 : St → Int32 → Int32 → Int32 → Int32 → Int32 → Option St) (σ : St) (x1 : Int32) (x2 : Int32) (x3 : Int32) (x4 : Int32) (x5 : Int32) (s0 : Int32) : Option St := if 0 ≤ s0 then (if s0 ≤ (99 : Int32) then (f_X5_workOut_b128 k23 σ x1 x2 x3 x4 x5 s0) else (f_X5_workOut_b128 k23 σ x1 x2 x3 x4 x5 (99 : Int32))) else (f_X5_workOut_b128 k23 σ x1 x2 x3 x4 x5 (0 : Int32))
def f_X5_workOut_b55 (k23 : St → Int32 → Int32 → Int32 → Int32 → Int32 → Option St) (σ : St) (x1 : Int32) (x2 : Int32) (x3 : Int32) (x4 : Int32) (x5 : Int32) (x6 : Int32) (s0 : Int32) : Option St := if σ.2.2.2.2 254 = 0 then (f_X5_workOut_b103 k23 σ x1 x2 x3 x4 x5 (((s0 * (9 : Int32)) + (x6 * (σ.1 253 0))) - ((2 : Int32) * x2))) else derefL σ (σ.2.2.2.2 254) (fun j10 => bnd2 (f_X4_worth σ j10 x6 (σ.1 253 0) s0 x1 x5 x2) (fun r12 σ13 => f_X5_workOut_b103 k23 σ13 x1 x2 x3 x4 x5 r12))
def f_X5_workOut_b23 : Nat → St → Int32 → Int32 → Int32 → Int32 → Int32 → Option St
  | 0, _, _, _, _, _, _ => none
  | n + 1, σ, x1, x2, x3, x4, x5 => if (12 : Int32) ≤ x5 then (chk (x3 < 0 ∨ 120 ≤ x3.toNatClampNeg) (bnd (sA σ 257 0 (upd (σ.2.2.1 257 0) x3.toNatClampNeg x4)) (fun σ6 => some σ6))) else (chk ((x1 * (12 : Int32)) + x5 < 0 ∨ 144 ≤ ((x1 * (12 : Int32)) + x5).toNatClampNeg) (bnd (σ.2.2.1 250 0 ((x1 * (12 : Int32)) + x5).toNatClampNeg) (fun v8 => if x1 = x5 then (f_X5_workOut_b55 (f_X5_workOut_b23 n) σ x1 x2 x3 x4 x5 v8 (1 : Int32)) else (f_X5_workOut_b55 (f_X5_workOut_b23 n) σ x1 x2 x3 x4 x5 v8 (0 : Int32)))))
def f_X5_workOut (σ : St) (p1 : Int32) (p2 : Int32) : Option St := bnd ((p2 * (12 : Int32)) + p1) (fun v1 => chk (v1 < 0 ∨ 120 ≤ v1.toNatClampNeg) (if σ.2.2.1 257 0 v1.toNatClampNeg < 0 then (f_X5_workOut_b23 256 σ p1 p2 v1 (0 : Int32) (0 : Int32)) else (some σ)))
set_option maxHeartbeats 4000000 in
set_option maxRecDepth 100000 in
theorem w_X5_workOut_b128 {p : Program} {l : Launch} {e : Env} {s : State} {m : MethodId} {args : Array Value} {below : List Frame} {meth : Method} {c : Code} {g : va_G} {ts : ClassId × ClassId × ClassId} {A : Nat → Prop} {Q : State → Prop} {a : Nat → Nat} {σ' : St} {k23 : St → Int32 → Int32 → Int32 → Int32 → Int32 → Option St} (C : FX p s m args meth c RX5 cX5_workOut 10 g ts A) (hQ : RetV p l e (rk 2 53) s m args below meth c cX5_workOut g (WC ts a) A σ' Q) (hk23 : ∀ (σ : St) (x1 : Int32) (x2 : Int32) (x3 : Int32) (x4 : Int32) (x5 : Int32) (H : Heap) (locs : List Loc) (ls : Array Slot), k23 σ x1 x2 x3 x4 x5 = some σ' → va_P g classes (WC ts a σ) H → va_D A (WC ts a σ) → va_S A s.heap H locs → lv_has ls 10 [(0, .ref (a 2)), (1, .int x1), (2, .int x2), (3, .int x3), (4, .int x4), (5, .int x5)] → W p l e (rk 2 53) s m args below meth c H locs 0 0 Q (F0 m 23 ls [])) : ∀ (σ : St) (x1 : Int32) (x2 : Int32) (x3 : Int32) (x4 : Int32) (x5 : Int32) (s0 : Int32) (H : Heap) (locs : List Loc) (ls : Array Slot), f_X5_workOut_b128 k23 σ x1 x2 x3 x4 x5 s0 = some σ' → va_P g classes (WC ts a σ) H → va_D A (WC ts a σ) → va_S A s.heap H locs → lv_has ls 10 [(0, .ref (a 2)), (1, .int x1), (2, .int x2), (3, .int x3), (4, .int x4), (5, .int x5)] → W p l e (rk 2 53) s m args below meth c H locs 0 0 Q (F0 m 128 ls [.int s0]) := by
  have hx := C.1
  have hb := C.2.1
  have hown := C.2.2.2.1
  have hts := C.2.2.2.2.1
  intro σ x1 x2 x3 x4 x5 s0 H locs ls hf hP hD hS hl
  rw [f_X5_workOut_b128] at hf
  refine lv_istore (lv' := [(9, .int s0), (0, .ref (a 2)), (1, .int x1), (2, .int x2), (3, .int x3), (4, .int x4), (5, .int x5)]) hx hb dX5_workOut_128 hl (by decide) rfl (fun ls hl => ?_)
  refine lv_aload_n hx hb dX5_workOut_130 rfl (lv_at hl 1 rfl) ?_
  refine G_X5_weights C hP q_130 dX5_workOut_131 ?_
  refine lv_iload_n hx hb dX5_workOut_134 rfl (lv_at hl 4 rfl) ?_
  refine lv_bipush (v := 12) hx hb dX5_workOut_135 (by decide) ?_
  refine lv_imul hx hb dX5_workOut_137 ?_
  refine lv_iload hx hb dX5_workOut_138 (lv_at hl 6 rfl) ?_
  refine lv_iadd hx hb dX5_workOut_140 ?_
  refine lv_iload hx hb dX5_workOut_141 (lv_at hl 0 rfl) ?_
  obtain ⟨h16, hf⟩ := chk_some hf
  refine AS_X5_weights C hP hD hS h16 dX5_workOut_143 (fun H locs hP hD hS => ?_)
  refine nameS hP hD hf (fun σ17 hP hD hf => ?_)
  refine lv_iload hx hb dX5_workOut_144 (lv_at hl 5 rfl) ?_
  refine lv_iload hx hb dX5_workOut_146 (lv_at hl 0 rfl) ?_
  refine lv_iadd hx hb dX5_workOut_148 ?_
  refine lv_topi (fun v18 ev18 => ?_)
  replace hf := bnd_at ev18 hf
  refine lv_istore (lv' := [(4, .int v18), (9, .int s0), (0, .ref (a 2)), (1, .int x1), (2, .int x2), (3, .int x3), (5, .int x5)]) hx hb dX5_workOut_149 hl (by decide) rfl (fun ls hl => ?_)
  obtain ⟨v19, ev19⟩ : ∃ z : Int32, z = x5 + 1 := ⟨_, rfl⟩
  replace hf := bnd_at ev19 hf
  refine lv_iinc (v := v19) (lv' := [(5, .int v19), (4, .int v18), (9, .int s0), (0, .ref (a 2)), (1, .int x1), (2, .int x2), (3, .int x3)]) hx hb dX5_workOut_151 hl (k := 6) rfl (by rw [ev19]; rfl) (by decide) rfl (fun ls hl => ?_)
  refine lv_goto (tgt := 23) hx hb dX5_workOut_154 (by decide) ?_
  exact hk23 _ _ _ _ _ _ _ _ _ hf hP hD hS (lv_sub hl [3, 4, 5, 6, 1, 0] rfl)
set_option maxHeartbeats 4000000 in
set_option maxRecDepth 100000 in
theorem w_X5_workOut_b103 {p : Program} {l : Launch} {e : Env} {s : State} {m : MethodId} {args : Array Value} {below : List Frame} {meth : Method} {c : Code} {g : va_G} {ts : ClassId × ClassId × ClassId} {A : Nat → Prop} {Q : State → Prop} {a : Nat → Nat} {σ' : St} {k23 : St → Int32 → Int32 → Int32 → Int32 → Int32 → Option St} (C : FX p s m args meth c RX5 cX5_workOut 10 g ts A) (hQ : RetV p l e (rk 2 53) s m args below meth c cX5_workOut g (WC ts a) A σ' Q) (hk23 : ∀ (σ : St) (x1 : Int32) (x2 : Int32) (x3 : Int32) (x4 : Int32) (x5 : Int32) (H : Heap) (locs : List Loc) (ls : Array Slot), k23 σ x1 x2 x3 x4 x5 = some σ' → va_P g classes (WC ts a σ) H → va_D A (WC ts a σ) → va_S A s.heap H locs → lv_has ls 10 [(0, .ref (a 2)), (1, .int x1), (2, .int x2), (3, .int x3), (4, .int x4), (5, .int x5)] → W p l e (rk 2 53) s m args below meth c H locs 0 0 Q (F0 m 23 ls [])) : ∀ (σ : St) (x1 : Int32) (x2 : Int32) (x3 : Int32) (x4 : Int32) (x5 : Int32) (s0 : Int32) (H : Heap) (locs : List Loc) (ls : Array Slot), f_X5_workOut_b103 k23 σ x1 x2 x3 x4 x5 s0 = some σ' → va_P g classes (WC ts a σ) H → va_D A (WC ts a σ) → va_S A s.heap H locs → lv_has ls 10 [(0, .ref (a 2)), (1, .int x1), (2, .int x2), (3, .int x3), (4, .int x4), (5, .int x5)] → W p l e (rk 2 53) s m args below meth c H locs 0 0 Q (F0 m 103 ls [.int s0]) := by
  have hx := C.1
  have hb := C.2.1
  have hown := C.2.2.2.1
  have hts := C.2.2.2.2.1
  intro σ x1 x2 x3 x4 x5 s0 H locs ls hf hP hD hS hl
  rw [f_X5_workOut_b103] at hf
  refine lv_istore (lv' := [(8, .int s0), (0, .ref (a 2)), (1, .int x1), (2, .int x2), (3, .int x3), (4, .int x4), (5, .int x5)]) hx hb dX5_workOut_103 hl (by decide) rfl (fun ls hl => ?_)
  refine lv_iload hx hb dX5_workOut_105 (lv_at hl 0 rfl) ?_
  refine lv_if_ge (tgt := 114) hx hb dX5_workOut_107 (by decide) (fun c14 => ?_) (fun c14 => ?_)
  · replace hf := ipos c14 hf
    refine lv_iload hx hb dX5_workOut_114 (lv_at hl 0 rfl) ?_
    refine lv_bipush (v := 99) hx hb dX5_workOut_116 (by decide) ?_
    refine lv_icmp_le (tgt := 126) hx hb dX5_workOut_118 (by decide) (fun c15 => ?_) (fun c15 => ?_)
    · replace hf := ipos c15 hf
      refine lv_iload hx hb dX5_workOut_126 (lv_at hl 0 rfl) ?_
      exact w_X5_workOut_b128 C hQ hk23 _ _ _ _ _ _ _ _ _ _ hf hP hD hS (lv_sub hl [1, 2, 3, 4, 5, 6] rfl)
    · replace hf := ineg c15 hf
      refine lv_bipush (v := 99) hx hb dX5_workOut_121 (by decide) ?_
      refine lv_goto (tgt := 128) hx hb dX5_workOut_123 (by decide) ?_
      exact w_X5_workOut_b128 C hQ hk23 _ _ _ _ _ _ _ _ _ _ hf hP hD hS (lv_sub hl [1, 2, 3, 4, 5, 6] rfl)
  · replace hf := ineg c14 hf
    refine lv_iconst (v := 0) hx hb dX5_workOut_110 (by decide) ?_
    refine lv_goto (tgt := 128) hx hb dX5_workOut_111 (by decide) ?_
    exact w_X5_workOut_b128 C hQ hk23 _ _ _ _ _ _ _ _ _ _ hf hP hD hS (lv_sub hl [1, 2, 3, 4, 5, 6] rfl)
set_option maxHeartbeats 4000000 in
set_option maxRecDepth 100000 in
theorem w_X5_workOut_b55 {p : Program} {l : Launch} {e : Env} {s : State} {m : MethodId} {args : Array Value} {below : List Frame} {meth : Method} {c : Code} {g : va_G} {ts : ClassId × ClassId × ClassId} {A : Nat → Prop} {Q : State → Prop} {a : Nat → Nat} {σ' : St} {k23 : St → Int32 → Int32 → Int32 → Int32 → Int32 → Option St} (C : FX p s m args meth c RX5 cX5_workOut 10 g ts A) (hQ : RetV p l e (rk 2 53) s m args below meth c cX5_workOut g (WC ts a) A σ' Q) (hk23 : ∀ (σ : St) (x1 : Int32) (x2 : Int32) (x3 : Int32) (x4 : Int32) (x5 : Int32) (H : Heap) (locs : List Loc) (ls : Array Slot), k23 σ x1 x2 x3 x4 x5 = some σ' → va_P g classes (WC ts a σ) H → va_D A (WC ts a σ) → va_S A s.heap H locs → lv_has ls 10 [(0, .ref (a 2)), (1, .int x1), (2, .int x2), (3, .int x3), (4, .int x4), (5, .int x5)] → W p l e (rk 2 53) s m args below meth c H locs 0 0 Q (F0 m 23 ls [])) : ∀ (σ : St) (x1 : Int32) (x2 : Int32) (x3 : Int32) (x4 : Int32) (x5 : Int32) (x6 : Int32) (s0 : Int32) (H : Heap) (locs : List Loc) (ls : Array Slot), f_X5_workOut_b55 k23 σ x1 x2 x3 x4 x5 x6 s0 = some σ' → va_P g classes (WC ts a σ) H → va_D A (WC ts a σ) → va_S A s.heap H locs → lv_has ls 10 [(0, .ref (a 2)), (1, .int x1), (2, .int x2), (3, .int x3), (4, .int x4), (5, .int x5), (6, .int x6)] → W p l e (rk 2 53) s m args below meth c H locs 0 0 Q (F0 m 55 ls [.int s0]) := by
  have hx := C.1
  have hb := C.2.1
  have hown := C.2.2.2.1
  have hts := C.2.2.2.2.1
  intro σ x1 x2 x3 x4 x5 x6 s0 H locs ls hf hP hD hS hl
  rw [f_X5_workOut_b55] at hf
  refine lv_istore (lv' := [(7, .int s0), (0, .ref (a 2)), (1, .int x1), (2, .int x2), (3, .int x3), (4, .int x4), (5, .int x5), (6, .int x6)]) hx hb dX5_workOut_55 hl (by decide) rfl (fun ls hl => ?_)
  refine lv_aload_n hx hb dX5_workOut_57 rfl (lv_at hl 1 rfl) ?_
  refine G_X5_law C hP q_127 dX5_workOut_58 ?_
  by_cases c58 : σ.2.2.2.2 254 = 0
  · replace hf := ipos c58 hf
    rw [lawv_0 c58]
    refine lv_ifnonnullN hx hb dX5_workOut_61 ?_
    refine lv_iload hx hb dX5_workOut_64 (lv_at hl 0 rfl) ?_
    refine lv_bipush (v := 9) hx hb dX5_workOut_66 (by decide) ?_
    refine lv_imul hx hb dX5_workOut_68 ?_
    refine lv_iload hx hb dX5_workOut_69 (lv_at hl 7 rfl) ?_
    refine lv_aload_n hx hb dX5_workOut_71 rfl (lv_at hl 1 rfl) ?_
    refine G_X5_noise C hP q_125 dX5_workOut_72 ?_
    refine lv_imul hx hb dX5_workOut_75 ?_
    refine lv_iadd hx hb dX5_workOut_76 ?_
    refine lv_iconst (v := 2) hx hb dX5_workOut_77 (by decide) ?_
    refine lv_iload_n hx hb dX5_workOut_78 rfl (lv_at hl 3 rfl) ?_
    refine lv_imul hx hb dX5_workOut_79 ?_
    refine lv_isub hx hb dX5_workOut_80 ?_
    refine lv_goto (tgt := 103) hx hb dX5_workOut_81 (by decide) ?_
    exact w_X5_workOut_b103 C hQ hk23 _ _ _ _ _ _ _ _ _ _ hf hP hD hS (lv_sub hl [1, 2, 3, 4, 5, 6] rfl)
  · replace hf := ineg c58 hf
    rw [lawv_p c58]
    refine lv_ifnonnull (tgt := 84) hx hb dX5_workOut_61 (by decide) ?_
    refine lv_aload_n hx hb dX5_workOut_84 rfl (lv_at hl 1 rfl) ?_
    refine G_X5_law C hP q_127 dX5_workOut_85 ?_
    obtain ⟨j10, ej10, fj10, hf⟩ := derefL_some hf
    rw [lawv_s ej10]
    refine lv_iload hx hb dX5_workOut_88 (lv_at hl 7 rfl) ?_
    refine lv_aload_n hx hb dX5_workOut_90 rfl (lv_at hl 1 rfl) ?_
    refine G_X5_noise C hP q_125 dX5_workOut_91 ?_
    refine lv_iload hx hb dX5_workOut_94 (lv_at hl 0 rfl) ?_
    refine lv_iload_n hx hb dX5_workOut_96 rfl (lv_at hl 2 rfl) ?_
    refine lv_iload hx hb dX5_workOut_97 (lv_at hl 6 rfl) ?_
    refine lv_iload_n hx hb dX5_workOut_99 rfl (lv_at hl 3 rfl) ?_
    obtain ⟨r12, σ13, h11, hf⟩ := bnd2_some hf
    refine vI [] C hP hD hS (c_X4_worth fj10 h11) mv_X4_worth q_670 (rv_X4 fj10) dX5_workOut_100 ⟨Nat.le_of_ble_eq_true rfl, Nat.le_of_ble_eq_true rfl⟩ ⟨Nat.zero_le _, Nat.zero_le _⟩ rfl rfl (Nat.le_of_ble_eq_true rfl) hl.1 (fun H locs hP hD hS => ?_)
    exact w_X5_workOut_b103 C hQ hk23 _ _ _ _ _ _ _ _ _ _ hf hP hD hS (lv_sub hl [1, 2, 3, 4, 5, 6] rfl)
set_option maxHeartbeats 4000000 in
set_option maxRecDepth 100000 in
theorem w_X5_workOut_b23 {p : Program} {l : Launch} {e : Env} {s : State} {m : MethodId} {args : Array Value} {below : List Frame} {meth : Method} {c : Code} {g : va_G} {ts : ClassId × ClassId × ClassId} {A : Nat → Prop} {Q : State → Prop} {a : Nat → Nat} {σ' : St} (C : FX p s m args meth c RX5 cX5_workOut 10 g ts A) (hQ : RetV p l e (rk 2 53) s m args below meth c cX5_workOut g (WC ts a) A σ' Q) : ∀ (n : Nat) (σ : St) (x1 : Int32) (x2 : Int32) (x3 : Int32) (x4 : Int32) (x5 : Int32) (H : Heap) (locs : List Loc) (ls : Array Slot), f_X5_workOut_b23 n σ x1 x2 x3 x4 x5 = some σ' → va_P g classes (WC ts a σ) H → va_D A (WC ts a σ) → va_S A s.heap H locs → lv_has ls 10 [(0, .ref (a 2)), (1, .int x1), (2, .int x2), (3, .int x3), (4, .int x4), (5, .int x5)] → W p l e (rk 2 53) s m args below meth c H locs 0 0 Q (F0 m 23 ls []) := by
  have hx := C.1
  have hb := C.2.1
  have hown := C.2.2.2.1
  have hts := C.2.2.2.2.1
  intro n
  induction n with
  | zero =>
    intro σ x1 x2 x3 x4 x5 H locs ls hf
    cases hf
  | succ n ih =>
    intro σ x1 x2 x3 x4 x5 H locs ls hf hP hD hS hl
    rw [f_X5_workOut_b23] at hf
    refine lv_iload hx hb dX5_workOut_23 (lv_at hl 5 rfl) ?_
    refine lv_bipush (v := 12) hx hb dX5_workOut_25 (by decide) ?_
    refine lv_icmp_ge (tgt := 157) hx hb dX5_workOut_27 (by decide) (fun c4 => ?_) (fun c4 => ?_)
    · replace hf := ipos c4 hf
      refine lv_aload_n hx hb dX5_workOut_157 rfl (lv_at hl 0 rfl) ?_
      refine G_X5_totals C hP q_131 dX5_workOut_158 ?_
      refine lv_iload_n hx hb dX5_workOut_161 rfl (lv_at hl 3 rfl) ?_
      refine lv_iload hx hb dX5_workOut_162 (lv_at hl 4 rfl) ?_
      obtain ⟨h5, hf⟩ := chk_some hf
      refine AS_X5_totals C hP hD hS h5 dX5_workOut_164 (fun H locs hP hD hS => ?_)
      refine nameS hP hD hf (fun σ6 hP hD hf => ?_)
      exact retV hQ hf dX5_workOut_165 hP hD hS
    · replace hf := ineg c4 hf
      refine lv_aload_n hx hb dX5_workOut_30 rfl (lv_at hl 0 rfl) ?_
      refine G_X5_alike C hP q_116 dX5_workOut_31 ?_
      refine lv_iload_n hx hb dX5_workOut_34 rfl (lv_at hl 1 rfl) ?_
      refine lv_bipush (v := 12) hx hb dX5_workOut_35 (by decide) ?_
      refine lv_imul hx hb dX5_workOut_37 ?_
      refine lv_iload hx hb dX5_workOut_38 (lv_at hl 5 rfl) ?_
      refine lv_iadd hx hb dX5_workOut_40 ?_
      obtain ⟨h7, hf⟩ := chk_some hf
      refine AL_X5_alike C hP h7 dX5_workOut_41 ?_
      refine lv_topi (fun v8 ev8 => ?_)
      replace hf := bnd_at ev8 hf
      refine lv_istore (lv' := [(6, .int v8), (0, .ref (a 2)), (1, .int x1), (2, .int x2), (3, .int x3), (4, .int x4), (5, .int x5)]) hx hb dX5_workOut_42 hl (by decide) rfl (fun ls hl => ?_)
      refine lv_iload_n hx hb dX5_workOut_44 rfl (lv_at hl 2 rfl) ?_
      refine lv_iload hx hb dX5_workOut_45 (lv_at hl 6 rfl) ?_
      refine lv_icmp_ne (tgt := 54) hx hb dX5_workOut_47 (by decide) (fun c9 => ?_) (fun c9 => ?_)
      · replace hf := ineg c9 hf
        refine lv_iconst (v := 0) hx hb dX5_workOut_54 (by decide) ?_
        exact w_X5_workOut_b55 C hQ ih _ _ _ _ _ _ _ _ _ _ _ hf hP hD hS (lv_sub hl [1, 2, 3, 4, 5, 6, 0] rfl)
      · replace hf := ipos c9 hf
        refine lv_iconst (v := 1) hx hb dX5_workOut_50 (by decide) ?_
        refine lv_goto (tgt := 55) hx hb dX5_workOut_51 (by decide) ?_
        exact w_X5_workOut_b55 C hQ ih _ _ _ _ _ _ _ _ _ _ _ hf hP hD hS (lv_sub hl [1, 2, 3, 4, 5, 6, 0] rfl)
set_option maxHeartbeats 4000000 in
set_option maxRecDepth 100000 in
theorem c_X5_workOut {l : Launch} {g : va_G} {ts : ClassId × ClassId × ClassId} {a : Nat → Nat} {σ : St} {p1 : Int32} {p2 : Int32} {σ' : St} (hf : f_X5_workOut σ p1 p2 = some σ') : ConV l g ts (WC ts a) yX5_workOut cX5_workOut 10 none (rk 2 53) σ [.ref (a 2), .int p1, .int p2] σ' := by
  refine ConV_mk rfl rfl (by decide) (Nat.le_of_ble_eq_true rfl) ?_
  intro p e s m below meth c A Q ls C hQ hP hD hS hl
  have C : FX p s m _ meth c RX5 cX5_workOut 10 g ts A := C
  have hx := C.1
  have hb := C.2.1
  have hown := C.2.2.2.1
  have hts := C.2.2.2.2.1
  have hl : lv_has ls 10 [(0, .ref (a 2)), (1, .int p1), (2, .int p2)] := hl
  rw [f_X5_workOut] at hf
  refine lv_iload_n hx hb dX5_workOut_0 rfl (lv_at hl 2 rfl) ?_
  refine lv_bipush (v := 12) hx hb dX5_workOut_1 (by decide) ?_
  refine lv_imul hx hb dX5_workOut_3 ?_
  refine lv_iload_n hx hb dX5_workOut_4 rfl (lv_at hl 1 rfl) ?_
  refine lv_iadd hx hb dX5_workOut_5 ?_
  refine lv_topi (fun v1 ev1 => ?_)
  replace hf := bnd_at ev1 hf
  refine lv_istore_n (lv' := [(3, .int v1), (0, .ref (a 2)), (1, .int p1), (2, .int p2)]) hx hb dX5_workOut_6 rfl hl (by decide) rfl (fun ls hl => ?_)
  refine lv_aload_n hx hb dX5_workOut_7 rfl (lv_at hl 1 rfl) ?_
  refine G_X5_totals C hP q_131 dX5_workOut_8 ?_
  refine lv_iload_n hx hb dX5_workOut_11 rfl (lv_at hl 0 rfl) ?_
  obtain ⟨h2, hf⟩ := chk_some hf
  refine AL_X5_totals C hP h2 dX5_workOut_12 ?_
  refine lv_if_lt (tgt := 17) hx hb dX5_workOut_13 (by decide) (fun c3 => ?_) (fun c3 => ?_)
  · replace hf := ipos c3 hf
    refine lv_iconst (v := 0) hx hb dX5_workOut_17 (by decide) ?_
    refine lv_istore (lv' := [(4, .int (0 : Int32)), (3, .int v1), (0, .ref (a 2)), (1, .int p1), (2, .int p2)]) hx hb dX5_workOut_18 hl (by decide) rfl (fun ls hl => ?_)
    refine lv_iconst (v := 0) hx hb dX5_workOut_20 (by decide) ?_
    refine lv_istore (lv' := [(5, .int (0 : Int32)), (4, .int (0 : Int32)), (3, .int v1), (0, .ref (a 2)), (1, .int p1), (2, .int p2)]) hx hb dX5_workOut_21 hl (by decide) rfl (fun ls hl => ?_)
    exact w_X5_workOut_b23 C hQ 256 _ _ _ _ _ _ _ _ _ hf hP hD hS (lv_sub hl [3, 4, 5, 2, 1, 0] rfl)
  · replace hf := ineg c3 hf
    exact retV hQ hf dX5_workOut_16 hP hD hS
theorem dX5_total_0 : decode cX5_total 0 = .ok (.aload_n 0, 1) := by decide +kernel
theorem dX5_total_1 : decode cX5_total 1 = .ok (.iload_n 1, 1) := by decide +kernel
theorem dX5_total_2 : decode cX5_total 2 = .ok (.iload_n 2, 1) := by decide +kernel
theorem dX5_total_3 : decode cX5_total 3 = .ok (.invokevirtual 47, 3) := by decide +kernel
theorem dX5_total_6 : decode cX5_total 6 = .ok (.aload_n 0, 1) := by decide +kernel
theorem dX5_total_7 : decode cX5_total 7 = .ok (.getfield 35, 3) := by decide +kernel
theorem dX5_total_10 : decode cX5_total 10 = .ok (.iload_n 2, 1) := by decide +kernel
theorem dX5_total_11 : decode cX5_total 11 = .ok (.bipush 12, 2) := by decide +kernel
theorem dX5_total_13 : decode cX5_total 13 = .ok (.imul, 1) := by decide +kernel
theorem dX5_total_14 : decode cX5_total 14 = .ok (.iload_n 1, 1) := by decide +kernel
theorem dX5_total_15 : decode cX5_total 15 = .ok (.iadd, 1) := by decide +kernel
theorem dX5_total_16 : decode cX5_total 16 = .ok (.iaload, 1) := by decide +kernel
theorem dX5_total_17 : decode cX5_total 17 = .ok (.ireturn, 1) := by decide +kernel
def f_X5_total (σ : St) (p1 : Int32) (p2 : Int32) : Option (Int32 × St) := bnd1 (f_X5_workOut σ p1 p2) (fun σ2 => chk ((p2 * (12 : Int32)) + p1 < 0 ∨ 120 ≤ ((p2 * (12 : Int32)) + p1).toNatClampNeg) (some (σ2.2.2.1 257 0 ((p2 * (12 : Int32)) + p1).toNatClampNeg, σ2)))
set_option maxHeartbeats 4000000 in
set_option maxRecDepth 100000 in
theorem c_X5_total {l : Launch} {g : va_G} {ts : ClassId × ClassId × ClassId} {a : Nat → Nat} {σ : St} {p1 : Int32} {p2 : Int32} {r : Int32} {σ' : St} (hf : f_X5_total σ p1 p2 = some (r, σ')) : ConI l g ts (WC ts a) yX5_total cX5_total 3 (some .int) (rk 3 82) σ [.ref (a 2), .int p1, .int p2] r σ' := by
  refine ConI_mk .int rfl rfl rfl rfl (by decide) (Nat.le_of_ble_eq_true rfl) ?_
  intro p e s m below meth c A Q ls C hQ hP hD hS hl
  have C : FX p s m _ meth c RX5 cX5_total 3 g ts A := C
  have hx := C.1
  have hb := C.2.1
  have hown := C.2.2.2.1
  have hts := C.2.2.2.2.1
  have hl : lv_has ls 3 [(0, .ref (a 2)), (1, .int p1), (2, .int p2)] := hl
  rw [f_X5_total] at hf
  refine lv_aload_n hx hb dX5_total_0 rfl (lv_at hl 0 rfl) ?_
  refine lv_iload_n hx hb dX5_total_1 rfl (lv_at hl 1 rfl) ?_
  refine lv_iload_n hx hb dX5_total_2 rfl (lv_at hl 2 rfl) ?_
  obtain ⟨σ2, h1, hf⟩ := bnd1_some hf
  refine vV [] C hP hD hS (c_X5_workOut h1) mv_X5_workOut q_666 rv_X5 dX5_total_3 ⟨Nat.le_of_ble_eq_true rfl, Nat.le_of_ble_eq_true rfl⟩ ⟨Nat.zero_le _, Nat.zero_le _⟩ rfl rfl (Nat.le_of_ble_eq_true rfl) hl.1 (fun H locs hP hD hS => ?_)
  refine lv_aload_n hx hb dX5_total_6 rfl (lv_at hl 0 rfl) ?_
  refine G_X5_totals C hP q_131 dX5_total_7 ?_
  refine lv_iload_n hx hb dX5_total_10 rfl (lv_at hl 2 rfl) ?_
  refine lv_bipush (v := 12) hx hb dX5_total_11 (by decide) ?_
  refine lv_imul hx hb dX5_total_13 ?_
  refine lv_iload_n hx hb dX5_total_14 rfl (lv_at hl 1 rfl) ?_
  refine lv_iadd hx hb dX5_total_15 ?_
  obtain ⟨h3, hf⟩ := chk_some hf
  refine AL_X5_totals C hP h3 dX5_total_16 ?_
  exact retI hQ hf dX5_total_17 hP hD hS
theorem dX5_weight_0 : decode cX5_weight 0 = .ok (.aload_n 0, 1) := by decide +kernel
theorem dX5_weight_1 : decode cX5_weight 1 = .ok (.iload_n 1, 1) := by decide +kernel
theorem dX5_weight_2 : decode cX5_weight 2 = .ok (.iload_n 3, 1) := by decide +kernel
theorem dX5_weight_3 : decode cX5_weight 3 = .ok (.invokevirtual 47, 3) := by decide +kernel
theorem dX5_weight_6 : decode cX5_weight 6 = .ok (.aload_n 0, 1) := by decide +kernel
theorem dX5_weight_7 : decode cX5_weight 7 = .ok (.getfield 32, 3) := by decide +kernel
theorem dX5_weight_10 : decode cX5_weight 10 = .ok (.iload_n 3, 1) := by decide +kernel
theorem dX5_weight_11 : decode cX5_weight 11 = .ok (.bipush 12, 2) := by decide +kernel
theorem dX5_weight_13 : decode cX5_weight 13 = .ok (.imul, 1) := by decide +kernel
theorem dX5_weight_14 : decode cX5_weight 14 = .ok (.iload_n 1, 1) := by decide +kernel
theorem dX5_weight_15 : decode cX5_weight 15 = .ok (.iadd, 1) := by decide +kernel
theorem dX5_weight_16 : decode cX5_weight 16 = .ok (.bipush 12, 2) := by decide +kernel
theorem dX5_weight_18 : decode cX5_weight 18 = .ok (.imul, 1) := by decide +kernel
theorem dX5_weight_19 : decode cX5_weight 19 = .ok (.iload_n 2, 1) := by decide +kernel
theorem dX5_weight_20 : decode cX5_weight 20 = .ok (.iadd, 1) := by decide +kernel
theorem dX5_weight_21 : decode cX5_weight 21 = .ok (.iaload, 1) := by decide +kernel
theorem dX5_weight_22 : decode cX5_weight 22 = .ok (.ireturn, 1) := by decide +kernel
def f_X5_weight (σ : St) (p1 : Int32) (p2 : Int32) (p3 : Int32) : Option (Int32 × St) := bnd1 (f_X5_workOut σ p1 p3) (fun σ2 => chk ((((p3 * (12 : Int32)) + p1) * (12 : Int32)) + p2 < 0 ∨ 1440 ≤ ((((p3 * (12 : Int32)) + p1) * (12 : Int32)) + p2).toNatClampNeg) (some (σ2.2.2.1 256 0 ((((p3 * (12 : Int32)) + p1) * (12 : Int32)) + p2).toNatClampNeg, σ2)))
set_option maxHeartbeats 4000000 in
set_option maxRecDepth 100000 in
theorem c_X5_weight {l : Launch} {g : va_G} {ts : ClassId × ClassId × ClassId} {a : Nat → Nat} {σ : St} {p1 : Int32} {p2 : Int32} {p3 : Int32} {r : Int32} {σ' : St} (hf : f_X5_weight σ p1 p2 p3 = some (r, σ')) : ConI l g ts (WC ts a) yX5_weight cX5_weight 4 (some .int) (rk 3 82) σ [.ref (a 2), .int p1, .int p2, .int p3] r σ' := by
  refine ConI_mk .int rfl rfl rfl rfl (by decide) (Nat.le_of_ble_eq_true rfl) ?_
  intro p e s m below meth c A Q ls C hQ hP hD hS hl
  have C : FX p s m _ meth c RX5 cX5_weight 4 g ts A := C
  have hx := C.1
  have hb := C.2.1
  have hown := C.2.2.2.1
  have hts := C.2.2.2.2.1
  have hl : lv_has ls 4 [(0, .ref (a 2)), (1, .int p1), (2, .int p2), (3, .int p3)] := hl
  rw [f_X5_weight] at hf
  refine lv_aload_n hx hb dX5_weight_0 rfl (lv_at hl 0 rfl) ?_
  refine lv_iload_n hx hb dX5_weight_1 rfl (lv_at hl 1 rfl) ?_
  refine lv_iload_n hx hb dX5_weight_2 rfl (lv_at hl 3 rfl) ?_
  obtain ⟨σ2, h1, hf⟩ := bnd1_some hf
  refine vV [] C hP hD hS (c_X5_workOut h1) mv_X5_workOut q_666 rv_X5 dX5_weight_3 ⟨Nat.le_of_ble_eq_true rfl, Nat.le_of_ble_eq_true rfl⟩ ⟨Nat.zero_le _, Nat.zero_le _⟩ rfl rfl (Nat.le_of_ble_eq_true rfl) hl.1 (fun H locs hP hD hS => ?_)
  refine lv_aload_n hx hb dX5_weight_6 rfl (lv_at hl 0 rfl) ?_
  refine G_X5_weights C hP q_130 dX5_weight_7 ?_
  refine lv_iload_n hx hb dX5_weight_10 rfl (lv_at hl 3 rfl) ?_
  refine lv_bipush (v := 12) hx hb dX5_weight_11 (by decide) ?_
  refine lv_imul hx hb dX5_weight_13 ?_
  refine lv_iload_n hx hb dX5_weight_14 rfl (lv_at hl 1 rfl) ?_
  refine lv_iadd hx hb dX5_weight_15 ?_
  refine lv_bipush (v := 12) hx hb dX5_weight_16 (by decide) ?_
  refine lv_imul hx hb dX5_weight_18 ?_
  refine lv_iload_n hx hb dX5_weight_19 rfl (lv_at hl 2 rfl) ?_
  refine lv_iadd hx hb dX5_weight_20 ?_
  obtain ⟨h3, hf⟩ := chk_some hf
  refine AL_X5_weights C hP h3 dX5_weight_21 ?_
  exact retI hQ hf dX5_weight_22 hP hD hS
theorem dX5_heardBy_0 : decode cX5_heardBy 0 = .ok (.aload_n 0, 1) := by decide +kernel
theorem dX5_heardBy_1 : decode cX5_heardBy 1 = .ok (.iload_n 2, 1) := by decide +kernel
theorem dX5_heardBy_2 : decode cX5_heardBy 2 = .ok (.iload_n 3, 1) := by decide +kernel
theorem dX5_heardBy_3 : decode cX5_heardBy 3 = .ok (.invokevirtual 59, 3) := by decide +kernel
theorem dX5_heardBy_6 : decode cX5_heardBy 6 = .ok (.istore 4, 2) := by decide +kernel
theorem dX5_heardBy_8 : decode cX5_heardBy 8 = .ok (.iload 4, 2) := by decide +kernel
theorem dX5_heardBy_10 : decode cX5_heardBy 10 = .ok (.ifCond .ne 5, 3) := by decide +kernel
theorem dX5_heardBy_13 : decode cX5_heardBy 13 = .ok (.iload_n 2, 1) := by decide +kernel
theorem dX5_heardBy_14 : decode cX5_heardBy 14 = .ok (.ireturn, 1) := by decide +kernel
theorem dX5_heardBy_15 : decode cX5_heardBy 15 = .ok (.iload_n 1, 1) := by decide +kernel
theorem dX5_heardBy_16 : decode cX5_heardBy 16 = .ok (.bipush 8, 2) := by decide +kernel
theorem dX5_heardBy_18 : decode cX5_heardBy 18 = .ok (.iushr, 1) := by decide +kernel
theorem dX5_heardBy_19 : decode cX5_heardBy 19 = .ok (.iload 4, 2) := by decide +kernel
theorem dX5_heardBy_21 : decode cX5_heardBy 21 = .ok (.irem, 1) := by decide +kernel
theorem dX5_heardBy_22 : decode cX5_heardBy 22 = .ok (.istore 5, 2) := by decide +kernel
theorem dX5_heardBy_24 : decode cX5_heardBy 24 = .ok (.iconst 0, 1) := by decide +kernel
theorem dX5_heardBy_25 : decode cX5_heardBy 25 = .ok (.istore 6, 2) := by decide +kernel
theorem dX5_heardBy_27 : decode cX5_heardBy 27 = .ok (.iload 6, 2) := by decide +kernel
theorem dX5_heardBy_29 : decode cX5_heardBy 29 = .ok (.bipush 12, 2) := by decide +kernel
theorem dX5_heardBy_31 : decode cX5_heardBy 31 = .ok (.if_icmp .ge 30, 3) := by decide +kernel
theorem dX5_heardBy_34 : decode cX5_heardBy 34 = .ok (.iload 5, 2) := by decide +kernel
theorem dX5_heardBy_36 : decode cX5_heardBy 36 = .ok (.aload_n 0, 1) := by decide +kernel
theorem dX5_heardBy_37 : decode cX5_heardBy 37 = .ok (.iload_n 2, 1) := by decide +kernel
theorem dX5_heardBy_38 : decode cX5_heardBy 38 = .ok (.iload 6, 2) := by decide +kernel
theorem dX5_heardBy_40 : decode cX5_heardBy 40 = .ok (.iload_n 3, 1) := by decide +kernel
theorem dX5_heardBy_41 : decode cX5_heardBy 41 = .ok (.invokevirtual 63, 3) := by decide +kernel
theorem dX5_heardBy_44 : decode cX5_heardBy 44 = .ok (.isub, 1) := by decide +kernel
theorem dX5_heardBy_45 : decode cX5_heardBy 45 = .ok (.istore 5, 2) := by decide +kernel
theorem dX5_heardBy_47 : decode cX5_heardBy 47 = .ok (.iload 5, 2) := by decide +kernel
theorem dX5_heardBy_49 : decode cX5_heardBy 49 = .ok (.ifCond .ge 6, 3) := by decide +kernel
theorem dX5_heardBy_52 : decode cX5_heardBy 52 = .ok (.iload 6, 2) := by decide +kernel
theorem dX5_heardBy_54 : decode cX5_heardBy 54 = .ok (.ireturn, 1) := by decide +kernel
theorem dX5_heardBy_55 : decode cX5_heardBy 55 = .ok (.iinc 6 1, 3) := by decide +kernel
theorem dX5_heardBy_58 : decode cX5_heardBy 58 = .ok (.goto (-31), 3) := by decide +kernel
theorem dX5_heardBy_61 : decode cX5_heardBy 61 = .ok (.iload_n 2, 1) := by decide +kernel
theorem dX5_heardBy_62 : decode cX5_heardBy 62 = .ok (.ireturn, 1) := by decide +kernel
def f_X5_heardBy_b27 : Nat → St → Int32 → Int32 → Int32 → Int32 → Option (Int32 × St)
  | 0, _, _, _, _, _ => none
  | n + 1, σ, x2, x3, x5, x6 => if (12 : Int32) ≤ x6 then (some (x2, σ)) else (bnd2 (f_X5_weight σ x2 x6 x3) (fun r9 σ10 => bnd (x5 - r9) (fun v11 => if 0 ≤ v11 then (bnd (x6 + 1) (fun v13 => f_X5_heardBy_b27 n σ10 x2 x3 v11 v13)) else (some (x6, σ10)))))
def f_X5_heardBy (σ : St) (p1 : Int32) (p2 : Int32) (p3 : Int32) : Option (Int32 × St) := bnd2 (f_X5_total σ p2 p3) (fun r2 σ3 => if r2 = 0 then (some (p2, σ3)) else (chk (r2 = 0) (bnd ((((p1).toUInt32 >>> (((8 : Int32) : Int32).toUInt32 &&& Int32.toUInt32 31)).toInt32) - (((p1).toUInt32 >>> (((8 : Int32) : Int32).toUInt32 &&& Int32.toUInt32 31)).toInt32) / r2 * r2) (fun v6 => f_X5_heardBy_b27 256 σ3 p2 p3 v6 (0 : Int32)))))
set_option maxHeartbeats 4000000 in
set_option maxRecDepth 100000 in
theorem w_X5_heardBy_b27 {p : Program} {l : Launch} {e : Env} {s : State} {m : MethodId} {args : Array Value} {below : List Frame} {meth : Method} {c : Code} {g : va_G} {ts : ClassId × ClassId × ClassId} {A : Nat → Prop} {Q : State → Prop} {a : Nat → Nat} {r : Int32} {σ' : St} (C : FX p s m args meth c RX5 cX5_heardBy 7 g ts A) (hQ : RetI p l e (rk 4 105) s m args below meth c cX5_heardBy g (WC ts a) A r σ' Q) : ∀ (n : Nat) (σ : St) (x2 : Int32) (x3 : Int32) (x5 : Int32) (x6 : Int32) (H : Heap) (locs : List Loc) (ls : Array Slot), f_X5_heardBy_b27 n σ x2 x3 x5 x6 = some (r, σ') → va_P g classes (WC ts a σ) H → va_D A (WC ts a σ) → va_S A s.heap H locs → lv_has ls 7 [(0, .ref (a 2)), (2, .int x2), (3, .int x3), (5, .int x5), (6, .int x6)] → W p l e (rk 4 105) s m args below meth c H locs 0 0 Q (F0 m 27 ls []) := by
  have hx := C.1
  have hb := C.2.1
  have hown := C.2.2.2.1
  have hts := C.2.2.2.2.1
  intro n
  induction n with
  | zero =>
    intro σ x2 x3 x5 x6 H locs ls hf
    cases hf
  | succ n ih =>
    intro σ x2 x3 x5 x6 H locs ls hf hP hD hS hl
    rw [f_X5_heardBy_b27] at hf
    refine lv_iload hx hb dX5_heardBy_27 (lv_at hl 4 rfl) ?_
    refine lv_bipush (v := 12) hx hb dX5_heardBy_29 (by decide) ?_
    refine lv_icmp_ge (tgt := 61) hx hb dX5_heardBy_31 (by decide) (fun c7 => ?_) (fun c7 => ?_)
    · replace hf := ipos c7 hf
      refine lv_iload_n hx hb dX5_heardBy_61 rfl (lv_at hl 1 rfl) ?_
      exact retI hQ hf dX5_heardBy_62 hP hD hS
    · replace hf := ineg c7 hf
      refine lv_iload hx hb dX5_heardBy_34 (lv_at hl 3 rfl) ?_
      refine lv_aload_n hx hb dX5_heardBy_36 rfl (lv_at hl 0 rfl) ?_
      refine lv_iload_n hx hb dX5_heardBy_37 rfl (lv_at hl 1 rfl) ?_
      refine lv_iload hx hb dX5_heardBy_38 (lv_at hl 4 rfl) ?_
      refine lv_iload_n hx hb dX5_heardBy_40 rfl (lv_at hl 2 rfl) ?_
      obtain ⟨r9, σ10, h8, hf⟩ := bnd2_some hf
      refine vI [.int x5] C hP hD hS (c_X5_weight h8) mv_X5_weight q_893 rv_X5 dX5_heardBy_41 ⟨Nat.le_of_ble_eq_true rfl, Nat.le_of_ble_eq_true rfl⟩ ⟨Nat.zero_le _, Nat.zero_le _⟩ rfl rfl (Nat.le_of_ble_eq_true rfl) hl.1 (fun H locs hP hD hS => ?_)
      refine lv_isub hx hb dX5_heardBy_44 ?_
      refine lv_topi (fun v11 ev11 => ?_)
      replace hf := bnd_at ev11 hf
      refine lv_istore (lv' := [(5, .int v11), (0, .ref (a 2)), (2, .int x2), (3, .int x3), (6, .int x6)]) hx hb dX5_heardBy_45 hl (by decide) rfl (fun ls hl => ?_)
      refine lv_iload hx hb dX5_heardBy_47 (lv_at hl 0 rfl) ?_
      refine lv_if_ge (tgt := 55) hx hb dX5_heardBy_49 (by decide) (fun c12 => ?_) (fun c12 => ?_)
      · replace hf := ipos c12 hf
        obtain ⟨v13, ev13⟩ : ∃ z : Int32, z = x6 + 1 := ⟨_, rfl⟩
        replace hf := bnd_at ev13 hf
        refine lv_iinc (v := v13) (lv' := [(6, .int v13), (5, .int v11), (0, .ref (a 2)), (2, .int x2), (3, .int x3)]) hx hb dX5_heardBy_55 hl (k := 4) rfl (by rw [ev13]; rfl) (by decide) rfl (fun ls hl => ?_)
        refine lv_goto (tgt := 27) hx hb dX5_heardBy_58 (by decide) ?_
        exact ih _ _ _ _ _ _ _ _ hf hP hD hS (lv_sub hl [2, 3, 4, 1, 0] rfl)
      · replace hf := ineg c12 hf
        refine lv_iload hx hb dX5_heardBy_52 (lv_at hl 4 rfl) ?_
        exact retI hQ hf dX5_heardBy_54 hP hD hS
set_option maxHeartbeats 4000000 in
set_option maxRecDepth 100000 in
theorem c_X5_heardBy {l : Launch} {g : va_G} {ts : ClassId × ClassId × ClassId} {a : Nat → Nat} {σ : St} {p1 : Int32} {p2 : Int32} {p3 : Int32} {r : Int32} {σ' : St} (hf : f_X5_heardBy σ p1 p2 p3 = some (r, σ')) : ConI l g ts (WC ts a) yX5_heardBy cX5_heardBy 7 (some .int) (rk 4 105) σ [.ref (a 2), .int p1, .int p2, .int p3] r σ' := by
  refine ConI_mk .int rfl rfl rfl rfl (by decide) (Nat.le_of_ble_eq_true rfl) ?_
  intro p e s m below meth c A Q ls C hQ hP hD hS hl
  have C : FX p s m _ meth c RX5 cX5_heardBy 7 g ts A := C
  have hx := C.1
  have hb := C.2.1
  have hown := C.2.2.2.1
  have hts := C.2.2.2.2.1
  have hl : lv_has ls 7 [(0, .ref (a 2)), (1, .int p1), (2, .int p2), (3, .int p3)] := hl
  rw [f_X5_heardBy] at hf
  refine lv_aload_n hx hb dX5_heardBy_0 rfl (lv_at hl 0 rfl) ?_
  refine lv_iload_n hx hb dX5_heardBy_1 rfl (lv_at hl 2 rfl) ?_
  refine lv_iload_n hx hb dX5_heardBy_2 rfl (lv_at hl 3 rfl) ?_
  obtain ⟨r2, σ3, h1, hf⟩ := bnd2_some hf
  refine vI [] C hP hD hS (c_X5_total h1) mv_X5_total q_892 rv_X5 dX5_heardBy_3 ⟨Nat.le_of_ble_eq_true rfl, Nat.le_of_ble_eq_true rfl⟩ ⟨Nat.zero_le _, Nat.zero_le _⟩ rfl rfl (Nat.le_of_ble_eq_true rfl) hl.1 (fun H locs hP hD hS => ?_)
  refine lv_istore (lv' := [(4, .int r2), (0, .ref (a 2)), (1, .int p1), (2, .int p2), (3, .int p3)]) hx hb dX5_heardBy_6 hl (by decide) rfl (fun ls hl => ?_)
  refine lv_iload hx hb dX5_heardBy_8 (lv_at hl 0 rfl) ?_
  refine lv_if_ne (tgt := 15) hx hb dX5_heardBy_10 (by decide) (fun c4 => ?_) (fun c4 => ?_)
  · replace hf := ineg c4 hf
    refine lv_iload_n hx hb dX5_heardBy_15 rfl (lv_at hl 2 rfl) ?_
    refine lv_bipush (v := 8) hx hb dX5_heardBy_16 (by decide) ?_
    refine lv_iushr (v := ((p1).toUInt32 >>> (((8 : Int32) : Int32).toUInt32 &&& Int32.toUInt32 31)).toInt32) hx hb dX5_heardBy_18 rfl ?_
    refine lv_iload hx hb dX5_heardBy_19 (lv_at hl 0 rfl) ?_
    obtain ⟨h5, hf⟩ := chk_some hf
    refine lv_irem hx hb dX5_heardBy_21 h5 ?_
    refine lv_topi (fun v6 ev6 => ?_)
    replace hf := bnd_at ev6 hf
    refine lv_istore (lv' := [(5, .int v6), (4, .int r2), (0, .ref (a 2)), (1, .int p1), (2, .int p2), (3, .int p3)]) hx hb dX5_heardBy_22 hl (by decide) rfl (fun ls hl => ?_)
    refine lv_iconst (v := 0) hx hb dX5_heardBy_24 (by decide) ?_
    refine lv_istore (lv' := [(6, .int (0 : Int32)), (5, .int v6), (4, .int r2), (0, .ref (a 2)), (1, .int p1), (2, .int p2), (3, .int p3)]) hx hb dX5_heardBy_25 hl (by decide) rfl (fun ls hl => ?_)
    exact w_X5_heardBy_b27 C hQ 256 _ _ _ _ _ _ _ _ hf hP hD hS (lv_sub hl [3, 5, 6, 1, 0] rfl)
  · replace hf := ipos c4 hf
    refine lv_iload_n hx hb dX5_heardBy_13 rfl (lv_at hl 3 rfl) ?_
    exact retI hQ hf dX5_heardBy_14 hP hD hS
theorem dX5_parts_0 : decode cX5_parts 0 = .ok (.iload_n 2, 1) := by decide +kernel
theorem dX5_parts_1 : decode cX5_parts 1 = .ok (.i2l, 1) := by decide +kernel
theorem dX5_parts_2 : decode cX5_parts 2 = .ok (.invokestatic 55, 3) := by decide +kernel
theorem dX5_parts_5 : decode cX5_parts 5 = .ok (.ifCond .ne 5, 3) := by decide +kernel
theorem dX5_parts_8 : decode cX5_parts 8 = .ok (.iconst 0, 1) := by decide +kernel
theorem dX5_parts_9 : decode cX5_parts 9 = .ok (.ireturn, 1) := by decide +kernel
theorem dX5_parts_10 : decode cX5_parts 10 = .ok (.aload_n 0, 1) := by decide +kernel
theorem dX5_parts_11 : decode cX5_parts 11 = .ok (.iload_n 1, 1) := by decide +kernel
theorem dX5_parts_12 : decode cX5_parts 12 = .ok (.iload_n 3, 1) := by decide +kernel
theorem dX5_parts_13 : decode cX5_parts 13 = .ok (.invokevirtual 47, 3) := by decide +kernel
theorem dX5_parts_16 : decode cX5_parts 16 = .ok (.iload_n 3, 1) := by decide +kernel
theorem dX5_parts_17 : decode cX5_parts 17 = .ok (.bipush 12, 2) := by decide +kernel
theorem dX5_parts_19 : decode cX5_parts 19 = .ok (.imul, 1) := by decide +kernel
theorem dX5_parts_20 : decode cX5_parts 20 = .ok (.iload_n 1, 1) := by decide +kernel
theorem dX5_parts_21 : decode cX5_parts 21 = .ok (.iadd, 1) := by decide +kernel
theorem dX5_parts_22 : decode cX5_parts 22 = .ok (.istore 4, 2) := by decide +kernel
theorem dX5_parts_24 : decode cX5_parts 24 = .ok (.aload_n 0, 1) := by decide +kernel
theorem dX5_parts_25 : decode cX5_parts 25 = .ok (.getfield 35, 3) := by decide +kernel
theorem dX5_parts_28 : decode cX5_parts 28 = .ok (.iload 4, 2) := by decide +kernel
theorem dX5_parts_30 : decode cX5_parts 30 = .ok (.iaload, 1) := by decide +kernel
theorem dX5_parts_31 : decode cX5_parts 31 = .ok (.ifCond .ne 15, 3) := by decide +kernel
theorem dX5_parts_34 : decode cX5_parts 34 = .ok (.iload_n 1, 1) := by decide +kernel
theorem dX5_parts_35 : decode cX5_parts 35 = .ok (.iload_n 2, 1) := by decide +kernel
theorem dX5_parts_36 : decode cX5_parts 36 = .ok (.if_icmp .ne 8, 3) := by decide +kernel
theorem dX5_parts_39 : decode cX5_parts 39 = .ok (.bipush 100, 2) := by decide +kernel
theorem dX5_parts_41 : decode cX5_parts 41 = .ok (.goto 4, 3) := by decide +kernel
theorem dX5_parts_44 : decode cX5_parts 44 = .ok (.iconst 0, 1) := by decide +kernel
theorem dX5_parts_45 : decode cX5_parts 45 = .ok (.ireturn, 1) := by decide +kernel
theorem dX5_parts_46 : decode cX5_parts 46 = .ok (.bipush 100, 2) := by decide +kernel
theorem dX5_parts_48 : decode cX5_parts 48 = .ok (.aload_n 0, 1) := by decide +kernel
theorem dX5_parts_49 : decode cX5_parts 49 = .ok (.getfield 32, 3) := by decide +kernel
theorem dX5_parts_52 : decode cX5_parts 52 = .ok (.iload 4, 2) := by decide +kernel
theorem dX5_parts_54 : decode cX5_parts 54 = .ok (.bipush 12, 2) := by decide +kernel
theorem dX5_parts_56 : decode cX5_parts 56 = .ok (.imul, 1) := by decide +kernel
theorem dX5_parts_57 : decode cX5_parts 57 = .ok (.iload_n 2, 1) := by decide +kernel
theorem dX5_parts_58 : decode cX5_parts 58 = .ok (.iadd, 1) := by decide +kernel
theorem dX5_parts_59 : decode cX5_parts 59 = .ok (.iaload, 1) := by decide +kernel
theorem dX5_parts_60 : decode cX5_parts 60 = .ok (.imul, 1) := by decide +kernel
theorem dX5_parts_61 : decode cX5_parts 61 = .ok (.aload_n 0, 1) := by decide +kernel
theorem dX5_parts_62 : decode cX5_parts 62 = .ok (.getfield 35, 3) := by decide +kernel
theorem dX5_parts_65 : decode cX5_parts 65 = .ok (.iload 4, 2) := by decide +kernel
theorem dX5_parts_67 : decode cX5_parts 67 = .ok (.iaload, 1) := by decide +kernel
theorem dX5_parts_68 : decode cX5_parts 68 = .ok (.idiv, 1) := by decide +kernel
theorem dX5_parts_69 : decode cX5_parts 69 = .ok (.ireturn, 1) := by decide +kernel
def f_X5_parts (σ : St) (p1 : Int32) (p2 : Int32) (p3 : Int32) : Option (Int32 × St) := bnd1 (f_X11_isLetter ((p2 : Int32).toInt64)) (fun r2 => if r2 = 0 then (some ((0 : Int32), σ)) else (bnd1 (f_X5_workOut σ p1 p3) (fun σ5 => bnd ((p3 * (12 : Int32)) + p1) (fun v6 => chk (v6 < 0 ∨ 120 ≤ v6.toNatClampNeg) (if σ5.2.2.1 257 0 v6.toNatClampNeg = 0 then (if p1 = p2 then (some ((100 : Int32), σ5)) else (some ((0 : Int32), σ5))) else (chk ((v6 * (12 : Int32)) + p2 < 0 ∨ 1440 ≤ ((v6 * (12 : Int32)) + p2).toNatClampNeg) (chk (v6 < 0 ∨ 120 ≤ v6.toNatClampNeg) (chk (σ5.2.2.1 257 0 v6.toNatClampNeg = 0) (some (((100 : Int32) * (σ5.2.2.1 256 0 ((v6 * (12 : Int32)) + p2).toNatClampNeg)) / (σ5.2.2.1 257 0 v6.toNatClampNeg), σ5))))))))))
set_option maxHeartbeats 4000000 in
set_option maxRecDepth 100000 in
theorem c_X5_parts {l : Launch} {g : va_G} {ts : ClassId × ClassId × ClassId} {a : Nat → Nat} {σ : St} {p1 : Int32} {p2 : Int32} {p3 : Int32} {r : Int32} {σ' : St} (hf : f_X5_parts σ p1 p2 p3 = some (r, σ')) : ConI l g ts (WC ts a) yX5_parts cX5_parts 5 (some .int) (rk 3 82) σ [.ref (a 2), .int p1, .int p2, .int p3] r σ' := by
  refine ConI_mk .int rfl rfl rfl rfl (by decide) (Nat.le_of_ble_eq_true rfl) ?_
  intro p e s m below meth c A Q ls C hQ hP hD hS hl
  have C : FX p s m _ meth c RX5 cX5_parts 5 g ts A := C
  have hx := C.1
  have hb := C.2.1
  have hown := C.2.2.2.1
  have hts := C.2.2.2.2.1
  have hl : lv_has ls 5 [(0, .ref (a 2)), (1, .int p1), (2, .int p2), (3, .int p3)] := hl
  rw [f_X5_parts] at hf
  refine lv_iload_n hx hb dX5_parts_0 rfl (lv_at hl 2 rfl) ?_
  refine lv_i2l (v := (p2 : Int32).toInt64) hx hb dX5_parts_1 rfl ?_
  obtain ⟨r2, h1, hf⟩ := bnd1_some hf
  refine tnI (host := RX11) [] C hP hD hS (c_X11_isLetter h1) ms_X11_isLetter (by decide +kernel) dX5_parts_2 ⟨Nat.le_of_ble_eq_true rfl, Nat.le_of_ble_eq_true rfl⟩ ⟨Nat.zero_le _, Nat.zero_le _⟩ rfl rfl (Nat.le_of_ble_eq_true rfl) hl.1 (fun H locs hP hD hS => ?_)
  refine lv_if_ne (tgt := 10) hx hb dX5_parts_5 (by decide) (fun c3 => ?_) (fun c3 => ?_)
  · replace hf := ineg c3 hf
    refine lv_aload_n hx hb dX5_parts_10 rfl (lv_at hl 0 rfl) ?_
    refine lv_iload_n hx hb dX5_parts_11 rfl (lv_at hl 1 rfl) ?_
    refine lv_iload_n hx hb dX5_parts_12 rfl (lv_at hl 3 rfl) ?_
    obtain ⟨σ5, h4, hf⟩ := bnd1_some hf
    refine vV [] C hP hD hS (c_X5_workOut h4) mv_X5_workOut q_666 rv_X5 dX5_parts_13 ⟨Nat.le_of_ble_eq_true rfl, Nat.le_of_ble_eq_true rfl⟩ ⟨Nat.zero_le _, Nat.zero_le _⟩ rfl rfl (Nat.le_of_ble_eq_true rfl) hl.1 (fun H locs hP hD hS => ?_)
    refine lv_iload_n hx hb dX5_parts_16 rfl (lv_at hl 3 rfl) ?_
    refine lv_bipush (v := 12) hx hb dX5_parts_17 (by decide) ?_
    refine lv_imul hx hb dX5_parts_19 ?_
    refine lv_iload_n hx hb dX5_parts_20 rfl (lv_at hl 1 rfl) ?_
    refine lv_iadd hx hb dX5_parts_21 ?_
    refine lv_topi (fun v6 ev6 => ?_)
    replace hf := bnd_at ev6 hf
    refine lv_istore (lv' := [(4, .int v6), (0, .ref (a 2)), (1, .int p1), (2, .int p2), (3, .int p3)]) hx hb dX5_parts_22 hl (by decide) rfl (fun ls hl => ?_)
    refine lv_aload_n hx hb dX5_parts_24 rfl (lv_at hl 1 rfl) ?_
    refine G_X5_totals C hP q_131 dX5_parts_25 ?_
    refine lv_iload hx hb dX5_parts_28 (lv_at hl 0 rfl) ?_
    obtain ⟨h7, hf⟩ := chk_some hf
    refine AL_X5_totals C hP h7 dX5_parts_30 ?_
    refine lv_if_ne (tgt := 46) hx hb dX5_parts_31 (by decide) (fun c8 => ?_) (fun c8 => ?_)
    · replace hf := ineg c8 hf
      refine lv_bipush (v := 100) hx hb dX5_parts_46 (by decide) ?_
      refine lv_aload_n hx hb dX5_parts_48 rfl (lv_at hl 1 rfl) ?_
      refine G_X5_weights C hP q_130 dX5_parts_49 ?_
      refine lv_iload hx hb dX5_parts_52 (lv_at hl 0 rfl) ?_
      refine lv_bipush (v := 12) hx hb dX5_parts_54 (by decide) ?_
      refine lv_imul hx hb dX5_parts_56 ?_
      refine lv_iload_n hx hb dX5_parts_57 rfl (lv_at hl 3 rfl) ?_
      refine lv_iadd hx hb dX5_parts_58 ?_
      obtain ⟨h9, hf⟩ := chk_some hf
      refine AL_X5_weights C hP h9 dX5_parts_59 ?_
      refine lv_imul hx hb dX5_parts_60 ?_
      refine lv_aload_n hx hb dX5_parts_61 rfl (lv_at hl 1 rfl) ?_
      refine G_X5_totals C hP q_131 dX5_parts_62 ?_
      refine lv_iload hx hb dX5_parts_65 (lv_at hl 0 rfl) ?_
      obtain ⟨h10, hf⟩ := chk_some hf
      refine AL_X5_totals C hP h10 dX5_parts_67 ?_
      obtain ⟨h11, hf⟩ := chk_some hf
      refine lv_idiv hx hb dX5_parts_68 h11 ?_
      exact retI hQ hf dX5_parts_69 hP hD hS
    · replace hf := ipos c8 hf
      refine lv_iload_n hx hb dX5_parts_34 rfl (lv_at hl 2 rfl) ?_
      refine lv_iload_n hx hb dX5_parts_35 rfl (lv_at hl 3 rfl) ?_
      refine lv_icmp_ne (tgt := 44) hx hb dX5_parts_36 (by decide) (fun c12 => ?_) (fun c12 => ?_)
      · replace hf := ineg c12 hf
        refine lv_iconst (v := 0) hx hb dX5_parts_44 (by decide) ?_
        exact retI hQ hf dX5_parts_45 hP hD hS
      · replace hf := ipos c12 hf
        refine lv_bipush (v := 100) hx hb dX5_parts_39 (by decide) ?_
        refine lv_goto (tgt := 45) hx hb dX5_parts_41 (by decide) ?_
        exact retI hQ hf dX5_parts_45 hP hD hS
  · replace hf := ipos c3 hf
    refine lv_iconst (v := 0) hx hb dX5_parts_8 (by decide) ?_
    exact retI hQ hf dX5_parts_9 hP hD hS
theorem dX5_likenTo_0 : decode cX5_likenTo 0 = .ok (.aload_n 0, 1) := by decide +kernel
theorem dX5_likenTo_1 : decode cX5_likenTo 1 = .ok (.getfield 9, 3) := by decide +kernel
theorem dX5_likenTo_4 : decode cX5_likenTo 4 = .ok (.iload_n 1, 1) := by decide +kernel
theorem dX5_likenTo_5 : decode cX5_likenTo 5 = .ok (.bipush 12, 2) := by decide +kernel
theorem dX5_likenTo_7 : decode cX5_likenTo 7 = .ok (.imul, 1) := by decide +kernel
theorem dX5_likenTo_8 : decode cX5_likenTo 8 = .ok (.iload_n 2, 1) := by decide +kernel
theorem dX5_likenTo_9 : decode cX5_likenTo 9 = .ok (.iadd, 1) := by decide +kernel
theorem dX5_likenTo_10 : decode cX5_likenTo 10 = .ok (.iload_n 3, 1) := by decide +kernel
theorem dX5_likenTo_11 : decode cX5_likenTo 11 = .ok (.iastore, 1) := by decide +kernel
theorem dX5_likenTo_12 : decode cX5_likenTo 12 = .ok (.aload_n 0, 1) := by decide +kernel
theorem dX5_likenTo_13 : decode cX5_likenTo 13 = .ok (.getfield 9, 3) := by decide +kernel
theorem dX5_likenTo_16 : decode cX5_likenTo 16 = .ok (.iload_n 2, 1) := by decide +kernel
theorem dX5_likenTo_17 : decode cX5_likenTo 17 = .ok (.bipush 12, 2) := by decide +kernel
theorem dX5_likenTo_19 : decode cX5_likenTo 19 = .ok (.imul, 1) := by decide +kernel
theorem dX5_likenTo_20 : decode cX5_likenTo 20 = .ok (.iload_n 1, 1) := by decide +kernel
theorem dX5_likenTo_21 : decode cX5_likenTo 21 = .ok (.iadd, 1) := by decide +kernel
theorem dX5_likenTo_22 : decode cX5_likenTo 22 = .ok (.iload_n 3, 1) := by decide +kernel
theorem dX5_likenTo_23 : decode cX5_likenTo 23 = .ok (.iastore, 1) := by decide +kernel
theorem dX5_likenTo_24 : decode cX5_likenTo 24 = .ok (.iconst 0, 1) := by decide +kernel
theorem dX5_likenTo_25 : decode cX5_likenTo 25 = .ok (.istore 4, 2) := by decide +kernel
theorem dX5_likenTo_27 : decode cX5_likenTo 27 = .ok (.iload 4, 2) := by decide +kernel
theorem dX5_likenTo_29 : decode cX5_likenTo 29 = .ok (.bipush 9, 2) := by decide +kernel
theorem dX5_likenTo_31 : decode cX5_likenTo 31 = .ok (.if_icmp .gt 35, 3) := by decide +kernel
theorem dX5_likenTo_34 : decode cX5_likenTo 34 = .ok (.aload_n 0, 1) := by decide +kernel
theorem dX5_likenTo_35 : decode cX5_likenTo 35 = .ok (.getfield 35, 3) := by decide +kernel
theorem dX5_likenTo_38 : decode cX5_likenTo 38 = .ok (.iload 4, 2) := by decide +kernel
theorem dX5_likenTo_40 : decode cX5_likenTo 40 = .ok (.bipush 12, 2) := by decide +kernel
theorem dX5_likenTo_42 : decode cX5_likenTo 42 = .ok (.imul, 1) := by decide +kernel
theorem dX5_likenTo_43 : decode cX5_likenTo 43 = .ok (.iload_n 1, 1) := by decide +kernel
theorem dX5_likenTo_44 : decode cX5_likenTo 44 = .ok (.iadd, 1) := by decide +kernel
theorem dX5_likenTo_45 : decode cX5_likenTo 45 = .ok (.iconst (-1), 1) := by decide +kernel
theorem dX5_likenTo_46 : decode cX5_likenTo 46 = .ok (.iastore, 1) := by decide +kernel
theorem dX5_likenTo_47 : decode cX5_likenTo 47 = .ok (.aload_n 0, 1) := by decide +kernel
theorem dX5_likenTo_48 : decode cX5_likenTo 48 = .ok (.getfield 35, 3) := by decide +kernel
theorem dX5_likenTo_51 : decode cX5_likenTo 51 = .ok (.iload 4, 2) := by decide +kernel
theorem dX5_likenTo_53 : decode cX5_likenTo 53 = .ok (.bipush 12, 2) := by decide +kernel
theorem dX5_likenTo_55 : decode cX5_likenTo 55 = .ok (.imul, 1) := by decide +kernel
theorem dX5_likenTo_56 : decode cX5_likenTo 56 = .ok (.iload_n 2, 1) := by decide +kernel
theorem dX5_likenTo_57 : decode cX5_likenTo 57 = .ok (.iadd, 1) := by decide +kernel
theorem dX5_likenTo_58 : decode cX5_likenTo 58 = .ok (.iconst (-1), 1) := by decide +kernel
theorem dX5_likenTo_59 : decode cX5_likenTo 59 = .ok (.iastore, 1) := by decide +kernel
theorem dX5_likenTo_60 : decode cX5_likenTo 60 = .ok (.iinc 4 1, 3) := by decide +kernel
theorem dX5_likenTo_63 : decode cX5_likenTo 63 = .ok (.goto (-36), 3) := by decide +kernel
theorem dX5_likenTo_66 : decode cX5_likenTo 66 = .ok (.return_, 1) := by decide +kernel
def f_X5_likenTo_b27 : Nat → St → Int32 → Int32 → Int32 → Option St
  | 0, _, _, _, _ => none
  | n + 1, σ, x1, x2, x4 => if (9 : Int32) < x4 then (some σ) else (chk ((x4 * (12 : Int32)) + x1 < 0 ∨ 120 ≤ ((x4 * (12 : Int32)) + x1).toNatClampNeg) (bnd (sA σ 257 0 (upd (σ.2.2.1 257 0) ((x4 * (12 : Int32)) + x1).toNatClampNeg (-1 : Int32))) (fun σ7 => chk ((x4 * (12 : Int32)) + x2 < 0 ∨ 120 ≤ ((x4 * (12 : Int32)) + x2).toNatClampNeg) (bnd (sA σ7 257 0 (upd (σ7.2.2.1 257 0) ((x4 * (12 : Int32)) + x2).toNatClampNeg (-1 : Int32))) (fun σ9 => bnd (x4 + 1) (fun v10 => f_X5_likenTo_b27 n σ9 x1 x2 v10))))))
def f_X5_likenTo (σ : St) (p1 : Int32) (p2 : Int32) (p3 : Int32) : Option St := chk ((p1 * (12 : Int32)) + p2 < 0 ∨ 144 ≤ ((p1 * (12 : Int32)) + p2).toNatClampNeg) (bnd (sA σ 250 0 (upd (σ.2.2.1 250 0) ((p1 * (12 : Int32)) + p2).toNatClampNeg p3)) (fun σ2 => chk ((p2 * (12 : Int32)) + p1 < 0 ∨ 144 ≤ ((p2 * (12 : Int32)) + p1).toNatClampNeg) (bnd (sA σ2 250 0 (upd (σ2.2.2.1 250 0) ((p2 * (12 : Int32)) + p1).toNatClampNeg p3)) (fun σ4 => f_X5_likenTo_b27 256 σ4 p1 p2 (0 : Int32)))))
set_option maxHeartbeats 4000000 in
set_option maxRecDepth 100000 in
theorem w_X5_likenTo_b27 {p : Program} {l : Launch} {e : Env} {s : State} {m : MethodId} {args : Array Value} {below : List Frame} {meth : Method} {c : Code} {g : va_G} {ts : ClassId × ClassId × ClassId} {A : Nat → Prop} {Q : State → Prop} {a : Nat → Nat} {σ' : St} (C : FX p s m args meth c RX5 cX5_likenTo 5 g ts A) (hQ : RetV p l e (rk 0 0) s m args below meth c cX5_likenTo g (WC ts a) A σ' Q) : ∀ (n : Nat) (σ : St) (x1 : Int32) (x2 : Int32) (x4 : Int32) (H : Heap) (locs : List Loc) (ls : Array Slot), f_X5_likenTo_b27 n σ x1 x2 x4 = some σ' → va_P g classes (WC ts a σ) H → va_D A (WC ts a σ) → va_S A s.heap H locs → lv_has ls 5 [(0, .ref (a 2)), (1, .int x1), (2, .int x2), (4, .int x4)] → W p l e (rk 0 0) s m args below meth c H locs 0 0 Q (F0 m 27 ls []) := by
  have hx := C.1
  have hb := C.2.1
  have hown := C.2.2.2.1
  have hts := C.2.2.2.2.1
  intro n
  induction n with
  | zero =>
    intro σ x1 x2 x4 H locs ls hf
    cases hf
  | succ n ih =>
    intro σ x1 x2 x4 H locs ls hf hP hD hS hl
    rw [f_X5_likenTo_b27] at hf
    refine lv_iload hx hb dX5_likenTo_27 (lv_at hl 3 rfl) ?_
    refine lv_bipush (v := 9) hx hb dX5_likenTo_29 (by decide) ?_
    refine lv_icmp_gt (tgt := 66) hx hb dX5_likenTo_31 (by decide) (fun c5 => ?_) (fun c5 => ?_)
    · replace hf := ipos c5 hf
      exact retV hQ hf dX5_likenTo_66 hP hD hS
    · replace hf := ineg c5 hf
      refine lv_aload_n hx hb dX5_likenTo_34 rfl (lv_at hl 0 rfl) ?_
      refine G_X5_totals C hP q_131 dX5_likenTo_35 ?_
      refine lv_iload hx hb dX5_likenTo_38 (lv_at hl 3 rfl) ?_
      refine lv_bipush (v := 12) hx hb dX5_likenTo_40 (by decide) ?_
      refine lv_imul hx hb dX5_likenTo_42 ?_
      refine lv_iload_n hx hb dX5_likenTo_43 rfl (lv_at hl 1 rfl) ?_
      refine lv_iadd hx hb dX5_likenTo_44 ?_
      refine lv_iconst (v := -1) hx hb dX5_likenTo_45 (by decide) ?_
      obtain ⟨h6, hf⟩ := chk_some hf
      refine AS_X5_totals C hP hD hS h6 dX5_likenTo_46 (fun H locs hP hD hS => ?_)
      refine nameS hP hD hf (fun σ7 hP hD hf => ?_)
      refine lv_aload_n hx hb dX5_likenTo_47 rfl (lv_at hl 0 rfl) ?_
      refine G_X5_totals C hP q_131 dX5_likenTo_48 ?_
      refine lv_iload hx hb dX5_likenTo_51 (lv_at hl 3 rfl) ?_
      refine lv_bipush (v := 12) hx hb dX5_likenTo_53 (by decide) ?_
      refine lv_imul hx hb dX5_likenTo_55 ?_
      refine lv_iload_n hx hb dX5_likenTo_56 rfl (lv_at hl 2 rfl) ?_
      refine lv_iadd hx hb dX5_likenTo_57 ?_
      refine lv_iconst (v := -1) hx hb dX5_likenTo_58 (by decide) ?_
      obtain ⟨h8, hf⟩ := chk_some hf
      refine AS_X5_totals C hP hD hS h8 dX5_likenTo_59 (fun H locs hP hD hS => ?_)
      refine nameS hP hD hf (fun σ9 hP hD hf => ?_)
      obtain ⟨v10, ev10⟩ : ∃ z : Int32, z = x4 + 1 := ⟨_, rfl⟩
      replace hf := bnd_at ev10 hf
      refine lv_iinc (v := v10) (lv' := [(4, .int v10), (0, .ref (a 2)), (1, .int x1), (2, .int x2)]) hx hb dX5_likenTo_60 hl (k := 3) rfl (by rw [ev10]; rfl) (by decide) rfl (fun ls hl => ?_)
      refine lv_goto (tgt := 27) hx hb dX5_likenTo_63 (by decide) ?_
      exact ih _ _ _ _ _ _ _ hf hP hD hS (lv_sub hl [1, 2, 3, 0] rfl)
set_option maxHeartbeats 4000000 in
set_option maxRecDepth 100000 in
theorem c_X5_likenTo {l : Launch} {g : va_G} {ts : ClassId × ClassId × ClassId} {a : Nat → Nat} {σ : St} {p1 : Int32} {p2 : Int32} {p3 : Int32} {σ' : St} (hf : f_X5_likenTo σ p1 p2 p3 = some σ') : ConV l g ts (WC ts a) yX5_likenTo cX5_likenTo 5 none (rk 0 0) σ [.ref (a 2), .int p1, .int p2, .int p3] σ' := by
  refine ConV_mk rfl rfl (by decide) (Nat.le_of_ble_eq_true rfl) ?_
  intro p e s m below meth c A Q ls C hQ hP hD hS hl
  have C : FX p s m _ meth c RX5 cX5_likenTo 5 g ts A := C
  have hx := C.1
  have hb := C.2.1
  have hown := C.2.2.2.1
  have hts := C.2.2.2.2.1
  have hl : lv_has ls 5 [(0, .ref (a 2)), (1, .int p1), (2, .int p2), (3, .int p3)] := hl
  rw [f_X5_likenTo] at hf
  refine lv_aload_n hx hb dX5_likenTo_0 rfl (lv_at hl 0 rfl) ?_
  refine G_X5_alike C hP q_116 dX5_likenTo_1 ?_
  refine lv_iload_n hx hb dX5_likenTo_4 rfl (lv_at hl 1 rfl) ?_
  refine lv_bipush (v := 12) hx hb dX5_likenTo_5 (by decide) ?_
  refine lv_imul hx hb dX5_likenTo_7 ?_
  refine lv_iload_n hx hb dX5_likenTo_8 rfl (lv_at hl 2 rfl) ?_
  refine lv_iadd hx hb dX5_likenTo_9 ?_
  refine lv_iload_n hx hb dX5_likenTo_10 rfl (lv_at hl 3 rfl) ?_
  obtain ⟨h1, hf⟩ := chk_some hf
  refine AS_X5_alike C hP hD hS h1 dX5_likenTo_11 (fun H locs hP hD hS => ?_)
  refine nameS hP hD hf (fun σ2 hP hD hf => ?_)
  refine lv_aload_n hx hb dX5_likenTo_12 rfl (lv_at hl 0 rfl) ?_
  refine G_X5_alike C hP q_116 dX5_likenTo_13 ?_
  refine lv_iload_n hx hb dX5_likenTo_16 rfl (lv_at hl 2 rfl) ?_
  refine lv_bipush (v := 12) hx hb dX5_likenTo_17 (by decide) ?_
  refine lv_imul hx hb dX5_likenTo_19 ?_
  refine lv_iload_n hx hb dX5_likenTo_20 rfl (lv_at hl 1 rfl) ?_
  refine lv_iadd hx hb dX5_likenTo_21 ?_
  refine lv_iload_n hx hb dX5_likenTo_22 rfl (lv_at hl 3 rfl) ?_
  obtain ⟨h3, hf⟩ := chk_some hf
  refine AS_X5_alike C hP hD hS h3 dX5_likenTo_23 (fun H locs hP hD hS => ?_)
  refine nameS hP hD hf (fun σ4 hP hD hf => ?_)
  refine lv_iconst (v := 0) hx hb dX5_likenTo_24 (by decide) ?_
  refine lv_istore (lv' := [(4, .int (0 : Int32)), (0, .ref (a 2)), (1, .int p1), (2, .int p2), (3, .int p3)]) hx hb dX5_likenTo_25 hl (by decide) rfl (fun ls hl => ?_)
  exact w_X5_likenTo_b27 C hQ 256 _ _ _ _ _ _ _ hf hP hD hS (lv_sub hl [1, 2, 3, 0] rfl)
theorem dX5_makeNoise_0 : decode cX5_makeNoise 0 = .ok (.aload_n 0, 1) := by decide +kernel
theorem dX5_makeNoise_1 : decode cX5_makeNoise 1 = .ok (.iload_n 1, 1) := by decide +kernel
theorem dX5_makeNoise_2 : decode cX5_makeNoise 2 = .ok (.putfield 21, 3) := by decide +kernel
theorem dX5_makeNoise_5 : decode cX5_makeNoise 5 = .ok (.aload_n 0, 1) := by decide +kernel
theorem dX5_makeNoise_6 : decode cX5_makeNoise 6 = .ok (.getfield 35, 3) := by decide +kernel
theorem dX5_makeNoise_9 : decode cX5_makeNoise 9 = .ok (.iconst (-1), 1) := by decide +kernel
theorem dX5_makeNoise_10 : decode cX5_makeNoise 10 = .ok (.invokestatic 38, 3) := by decide +kernel
theorem dX5_makeNoise_13 : decode cX5_makeNoise 13 = .ok (.return_, 1) := by decide +kernel
def f_X5_makeNoise (σ : St) (p1 : Int32) : Option St := bnd (sA (sI σ 253 0 p1) 257 0 (fillA ((sI σ 253 0 p1).2.2.1 257 0) 120 (-1 : Int32))) (fun σ1 => some σ1)
set_option maxHeartbeats 4000000 in
set_option maxRecDepth 100000 in
theorem c_X5_makeNoise {l : Launch} {g : va_G} {ts : ClassId × ClassId × ClassId} {a : Nat → Nat} {σ : St} {p1 : Int32} {σ' : St} (hf : f_X5_makeNoise σ p1 = some σ') : ConV l g ts (WC ts a) yX5_makeNoise cX5_makeNoise 2 none (rk 1 23) σ [.ref (a 2), .int p1] σ' := by
  refine ConV_mk rfl rfl (by decide) (Nat.le_of_ble_eq_true rfl) ?_
  intro p e s m below meth c A Q ls C hQ hP hD hS hl
  have C : FX p s m _ meth c RX5 cX5_makeNoise 2 g ts A := C
  have hx := C.1
  have hb := C.2.1
  have hown := C.2.2.2.1
  have hts := C.2.2.2.2.1
  have hl : lv_has ls 2 [(0, .ref (a 2)), (1, .int p1)] := hl
  rw [f_X5_makeNoise] at hf
  refine lv_aload_n hx hb dX5_makeNoise_0 rfl (lv_at hl 0 rfl) ?_
  refine lv_iload_n hx hb dX5_makeNoise_1 rfl (lv_at hl 1 rfl) ?_
  refine S_X5_noise C hP hD hS q_125 dX5_makeNoise_2 (fun H locs hP hD hS => ?_)
  refine lv_aload_n hx hb dX5_makeNoise_5 rfl (lv_at hl 0 rfl) ?_
  refine G_X5_totals C hP q_131 dX5_makeNoise_6 ?_
  refine lv_iconst (v := -1) hx hb dX5_makeNoise_9 (by decide) ?_
  refine tV [] C hP hD hS (c_fillI (arr_X5_totals) (aput_X5_totals) (Nat.le_of_ble_eq_true rfl)) ms_fillI q_113 dX5_makeNoise_10 ⟨Nat.le_of_ble_eq_true rfl, Nat.le_of_ble_eq_true rfl⟩ ⟨Nat.zero_le _, Nat.zero_le _⟩ rfl rfl (Nat.le_of_ble_eq_true rfl) hl.1 (fun H locs hP hD hS => ?_)
  refine nameS hP hD hf (fun σ1 hP hD hf => ?_)
  exact retV hQ hf dX5_makeNoise_13 hP hD hS
