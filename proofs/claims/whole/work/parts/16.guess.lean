theorem mv_X3_weigh : MV yX3_weigh cX3_weigh 8 none 2 := ⟨q_691, q_692, q_64, q_693, by decide +kernel, by decide +kernel, by decide +kernel⟩
theorem mv_X3_best : MV yX3_best cX3_best 5 (some .int) 0 := ⟨q_712, q_713, q_64, q_714, by decide +kernel, by decide +kernel, by decide +kernel⟩
theorem mv_X3_onceMore : MV yX3_onceMore cX3_onceMore 10 (some .long) 1 := ⟨q_736, q_737, q_64, q_738, by decide +kernel, by decide +kernel, by decide +kernel⟩
theorem mv_X3_placeToAsk : MV yX3_placeToAsk cX3_placeToAsk 8 (some .int) 1 := ⟨q_731, q_732, q_64, q_733, by decide +kernel, by decide +kernel, by decide +kernel⟩
theorem mv_X3_misfit : MV yX3_misfit cX3_misfit 6 (some .int) 2 := ⟨q_858, q_859, q_64, q_860, by decide +kernel, by decide +kernel, by decide +kernel⟩
theorem mv_X3_fitting : MV yX3_fitting cX3_fitting 4 (some .int) 1 := ⟨q_854, q_855, q_64, q_856, by decide +kernel, by decide +kernel, by decide +kernel⟩
theorem dX3_weigh_0 : decode cX3_weigh 0 = .ok (.aload_n 0, 1) := by decide +kernel
theorem dX3_weigh_1 : decode cX3_weigh 1 = .ok (.lconst 0, 1) := by decide +kernel
theorem dX3_weigh_2 : decode cX3_weigh 2 = .ok (.putfield 23, 3) := by decide +kernel
theorem dX3_weigh_5 : decode cX3_weigh 5 = .ok (.iconst 0, 1) := by decide +kernel
theorem dX3_weigh_6 : decode cX3_weigh 6 = .ok (.istore_n 3, 1) := by decide +kernel
theorem dX3_weigh_7 : decode cX3_weigh 7 = .ok (.iload_n 3, 1) := by decide +kernel
theorem dX3_weigh_8 : decode cX3_weigh 8 = .ok (.aload_n 0, 1) := by decide +kernel
theorem dX3_weigh_9 : decode cX3_weigh 9 = .ok (.getfield 15, 3) := by decide +kernel
theorem dX3_weigh_12 : decode cX3_weigh 12 = .ok (.getfield 27, 3) := by decide +kernel
theorem dX3_weigh_15 : decode cX3_weigh 15 = .ok (.if_icmp .ge 148, 3) := by decide +kernel
theorem dX3_weigh_18 : decode cX3_weigh 18 = .ok (.aload_n 0, 1) := by decide +kernel
theorem dX3_weigh_19 : decode cX3_weigh 19 = .ok (.getfield 15, 3) := by decide +kernel
theorem dX3_weigh_22 : decode cX3_weigh 22 = .ok (.getfield 33, 3) := by decide +kernel
theorem dX3_weigh_25 : decode cX3_weigh 25 = .ok (.iload_n 3, 1) := by decide +kernel
theorem dX3_weigh_26 : decode cX3_weigh 26 = .ok (.iaload, 1) := by decide +kernel
theorem dX3_weigh_27 : decode cX3_weigh 27 = .ok (.aload_n 1, 1) := by decide +kernel
theorem dX3_weigh_28 : decode cX3_weigh 28 = .ok (.getfield 37, 3) := by decide +kernel
theorem dX3_weigh_31 : decode cX3_weigh 31 = .ok (.if_icmp .ne 23, 3) := by decide +kernel
theorem dX3_weigh_34 : decode cX3_weigh 34 = .ok (.iload_n 2, 1) := by decide +kernel
theorem dX3_weigh_35 : decode cX3_weigh 35 = .ok (.ifCond .lt 15, 3) := by decide +kernel
theorem dX3_weigh_38 : decode cX3_weigh 38 = .ok (.aload_n 0, 1) := by decide +kernel
theorem dX3_weigh_39 : decode cX3_weigh 39 = .ok (.getfield 15, 3) := by decide +kernel
theorem dX3_weigh_42 : decode cX3_weigh 42 = .ok (.iload_n 3, 1) := by decide +kernel
theorem dX3_weigh_43 : decode cX3_weigh 43 = .ok (.invokevirtual 42, 3) := by decide +kernel
theorem dX3_weigh_46 : decode cX3_weigh 46 = .ok (.iload_n 2, 1) := by decide +kernel
theorem dX3_weigh_47 : decode cX3_weigh 47 = .ok (.if_icmp .ne 7, 3) := by decide +kernel
theorem dX3_weigh_50 : decode cX3_weigh 50 = .ok (.iconst 1, 1) := by decide +kernel
theorem dX3_weigh_51 : decode cX3_weigh 51 = .ok (.goto 4, 3) := by decide +kernel
theorem dX3_weigh_54 : decode cX3_weigh 54 = .ok (.iconst 0, 1) := by decide +kernel
theorem dX3_weigh_55 : decode cX3_weigh 55 = .ok (.istore 4, 2) := by decide +kernel
theorem dX3_weigh_57 : decode cX3_weigh 57 = .ok (.iload 4, 2) := by decide +kernel
theorem dX3_weigh_59 : decode cX3_weigh 59 = .ok (.ifCond .eq 16, 3) := by decide +kernel
theorem dX3_weigh_62 : decode cX3_weigh 62 = .ok (.aload_n 0, 1) := by decide +kernel
theorem dX3_weigh_63 : decode cX3_weigh 63 = .ok (.getfield 15, 3) := by decide +kernel
theorem dX3_weigh_66 : decode cX3_weigh 66 = .ok (.getfield 46, 3) := by decide +kernel
theorem dX3_weigh_69 : decode cX3_weigh 69 = .ok (.iload_n 3, 1) := by decide +kernel
theorem dX3_weigh_70 : decode cX3_weigh 70 = .ok (.iaload, 1) := by decide +kernel
theorem dX3_weigh_71 : decode cX3_weigh 71 = .ok (.i2l, 1) := by decide +kernel
theorem dX3_weigh_72 : decode cX3_weigh 72 = .ok (.goto 4, 3) := by decide +kernel
theorem dX3_weigh_75 : decode cX3_weigh 75 = .ok (.lconst 0, 1) := by decide +kernel
theorem dX3_weigh_76 : decode cX3_weigh 76 = .ok (.lstore 5, 2) := by decide +kernel
theorem dX3_weigh_78 : decode cX3_weigh 78 = .ok (.iconst 0, 1) := by decide +kernel
theorem dX3_weigh_79 : decode cX3_weigh 79 = .ok (.istore 7, 2) := by decide +kernel
theorem dX3_weigh_81 : decode cX3_weigh 81 = .ok (.iload 7, 2) := by decide +kernel
theorem dX3_weigh_83 : decode cX3_weigh 83 = .ok (.aload_n 0, 1) := by decide +kernel
theorem dX3_weigh_84 : decode cX3_weigh 84 = .ok (.getfield 15, 3) := by decide +kernel
theorem dX3_weigh_87 : decode cX3_weigh 87 = .ok (.getfield 33, 3) := by decide +kernel
theorem dX3_weigh_90 : decode cX3_weigh 90 = .ok (.iload_n 3, 1) := by decide +kernel
theorem dX3_weigh_91 : decode cX3_weigh 91 = .ok (.iaload, 1) := by decide +kernel
theorem dX3_weigh_92 : decode cX3_weigh 92 = .ok (.if_icmp .ge 46, 3) := by decide +kernel
theorem dX3_weigh_95 : decode cX3_weigh 95 = .ok (.lload 5, 2) := by decide +kernel
theorem dX3_weigh_97 : decode cX3_weigh 97 = .ok (.lconst 0, 1) := by decide +kernel
theorem dX3_weigh_98 : decode cX3_weigh 98 = .ok (.lcmp, 1) := by decide +kernel
theorem dX3_weigh_99 : decode cX3_weigh 99 = .ok (.ifCond .eq 39, 3) := by decide +kernel
theorem dX3_weigh_102 : decode cX3_weigh 102 = .ok (.lload 5, 2) := by decide +kernel
theorem dX3_weigh_104 : decode cX3_weigh 104 = .ok (.aload_n 0, 1) := by decide +kernel
theorem dX3_weigh_105 : decode cX3_weigh 105 = .ok (.getfield 19, 3) := by decide +kernel
theorem dX3_weigh_108 : decode cX3_weigh 108 = .ok (.aload_n 0, 1) := by decide +kernel
theorem dX3_weigh_109 : decode cX3_weigh 109 = .ok (.getfield 15, 3) := by decide +kernel
theorem dX3_weigh_112 : decode cX3_weigh 112 = .ok (.iload_n 3, 1) := by decide +kernel
theorem dX3_weigh_113 : decode cX3_weigh 113 = .ok (.iload 7, 2) := by decide +kernel
theorem dX3_weigh_115 : decode cX3_weigh 115 = .ok (.invokevirtual 49, 3) := by decide +kernel
theorem dX3_weigh_118 : decode cX3_weigh 118 = .ok (.aload_n 1, 1) := by decide +kernel
theorem dX3_weigh_119 : decode cX3_weigh 119 = .ok (.iload 7, 2) := by decide +kernel
theorem dX3_weigh_121 : decode cX3_weigh 121 = .ok (.invokevirtual 53, 3) := by decide +kernel
theorem dX3_weigh_124 : decode cX3_weigh 124 = .ok (.iconst 0, 1) := by decide +kernel
theorem dX3_weigh_125 : decode cX3_weigh 125 = .ok (.invokevirtual 56, 3) := by decide +kernel
theorem dX3_weigh_128 : decode cX3_weigh 128 = .ok (.i2l, 1) := by decide +kernel
theorem dX3_weigh_129 : decode cX3_weigh 129 = .ok (.lmul, 1) := by decide +kernel
theorem dX3_weigh_130 : decode cX3_weigh 130 = .ok (.lstore 5, 2) := by decide +kernel
theorem dX3_weigh_132 : decode cX3_weigh 132 = .ok (.iinc 7 1, 3) := by decide +kernel
theorem dX3_weigh_135 : decode cX3_weigh 135 = .ok (.goto (-54), 3) := by decide +kernel
theorem dX3_weigh_138 : decode cX3_weigh 138 = .ok (.aload_n 0, 1) := by decide +kernel
theorem dX3_weigh_139 : decode cX3_weigh 139 = .ok (.getfield 9, 3) := by decide +kernel
theorem dX3_weigh_142 : decode cX3_weigh 142 = .ok (.iload_n 3, 1) := by decide +kernel
theorem dX3_weigh_143 : decode cX3_weigh 143 = .ok (.lload 5, 2) := by decide +kernel
theorem dX3_weigh_145 : decode cX3_weigh 145 = .ok (.lastore, 1) := by decide +kernel
theorem dX3_weigh_146 : decode cX3_weigh 146 = .ok (.aload_n 0, 1) := by decide +kernel
theorem dX3_weigh_147 : decode cX3_weigh 147 = .ok (.dup, 1) := by decide +kernel
theorem dX3_weigh_148 : decode cX3_weigh 148 = .ok (.getfield 23, 3) := by decide +kernel
theorem dX3_weigh_151 : decode cX3_weigh 151 = .ok (.lload 5, 2) := by decide +kernel
theorem dX3_weigh_153 : decode cX3_weigh 153 = .ok (.ladd, 1) := by decide +kernel
theorem dX3_weigh_154 : decode cX3_weigh 154 = .ok (.putfield 23, 3) := by decide +kernel
theorem dX3_weigh_157 : decode cX3_weigh 157 = .ok (.iinc 3 1, 3) := by decide +kernel
theorem dX3_weigh_160 : decode cX3_weigh 160 = .ok (.goto (-153), 3) := by decide +kernel
theorem dX3_weigh_163 : decode cX3_weigh 163 = .ok (.return_, 1) := by decide +kernel
def f_X3_weigh_b138 (k7 : St → Nat → Int32 → Int32 → Option St) (σ : St) (o0 : Nat) (x2 : Int32) (x3 : Int32) (x5 : Int64) : Option St := chk (x3 < 0 ∨ 10 ≤ x3.toNatClampNeg) (bnd (sL σ 152 0 (vp_updL (σ.2.2.2.1 152 0) x3.toNatClampNeg x5)) (fun σ27 => bnd (x3 + 1) (fun v28 => k7 (sJ σ27 153 0 ((σ27.2.1 153 0) + x5)) o0 x2 v28)))
def f_X3_weigh_b81 (k7 : St → Nat → Int32 → Int32 → Option St) : Nat → St → Nat → Int32 → Int32 → Int64 → Int32 → Option St
  | 0, _, _, _, _, _, _ => none
  | n + 1, σ, o0, x2, x3, x5, x7 => chk (x3 < 0 ∨ 10 ≤ x3.toNatClampNeg) (if σ.2.2.1 301 0 x3.toNatClampNeg ≤ x7 then (f_X3_weigh_b138 k7 σ o0 x2 x3 x5) else (if x5 = (0 : Int64) then (f_X3_weigh_b138 k7 σ o0 x2 x3 x5) else (bnd2 (f_X6_at σ x3 x7) (fun r16 σ17 => bnd2 (f_X8_letterAt σ17 o0 x7) (fun r19 σ20 => bnd2 (f_X5_parts σ20 r16 r19 (0 : Int32)) (fun r22 σ23 => bnd (x5 * ((r22 : Int32).toInt64)) (fun v24 => bnd (x7 + 1) (fun v25 => f_X3_weigh_b81 k7 n σ23 o0 x2 x3 v24 v25))))))))
def f_X3_weigh_b55 (k7 : St → Nat → Int32 → Int32 → Option St) (σ : St) (o0 : Nat) (x2 : Int32) (x3 : Int32) (s0 : Int32) : Option St := if s0 = 0 then (f_X3_weigh_b81 k7 256 σ o0 x2 x3 (0 : Int64) (0 : Int32)) else (chk (x3 < 0 ∨ 10 ≤ x3.toNatClampNeg) (bnd (((σ.2.2.1 302 0 x3.toNatClampNeg) : Int32).toInt64) (fun v11 => f_X3_weigh_b81 k7 256 σ o0 x2 x3 v11 (0 : Int32))))
def f_X3_weigh_b50 (k7 : St → Nat → Int32 → Int32 → Option St) (σ : St) (o0 : Nat) (x2 : Int32) (x3 : Int32) : Option St := f_X3_weigh_b55 k7 σ o0 x2 x3 (1 : Int32)
def f_X3_weigh_b54 (k7 : St → Nat → Int32 → Int32 → Option St) (σ : St) (o0 : Nat) (x2 : Int32) (x3 : Int32) : Option St := f_X3_weigh_b55 k7 σ o0 x2 x3 (0 : Int32)
def f_X3_weigh_b7 : Nat → St → Nat → Int32 → Int32 → Option St
  | 0, _, _, _, _ => none
  | n + 1, σ, o0, x2, x3 => if σ.1 303 0 ≤ x3 then (some σ) else (chk (x3 < 0 ∨ 10 ≤ x3.toNatClampNeg) (if σ.2.2.1 301 0 x3.toNatClampNeg = σ.1 403 o0 then (if x2 < 0 then (f_X3_weigh_b50 (f_X3_weigh_b7 n) σ o0 x2 x3) else (bnd2 (f_X6_sumOf σ x3) (fun r6 σ7 => if r6 = x2 then (f_X3_weigh_b50 (f_X3_weigh_b7 n) σ7 o0 x2 x3) else (f_X3_weigh_b54 (f_X3_weigh_b7 n) σ7 o0 x2 x3)))) else (f_X3_weigh_b54 (f_X3_weigh_b7 n) σ o0 x2 x3)))
def f_X3_weigh (σ : St) (i1 : Nat) (p2 : Int32) : Option St := f_X3_weigh_b7 256 (sJ σ 153 0 (0 : Int64)) i1 p2 (0 : Int32)
set_option maxHeartbeats 4000000 in
set_option maxRecDepth 100000 in
theorem w_X3_weigh_b138 {p : Program} {l : Launch} {e : Env} {s : State} {m : MethodId} {args : Array Value} {below : List Frame} {meth : Method} {c : Code} {g : va_G} {ts : ClassId × ClassId × ClassId} {A : Nat → Prop} {Q : State → Prop} {a : Nat → Nat} {σ' : St} {k7 : St → Nat → Int32 → Int32 → Option St} (C : FX p s m args meth c RX3 cX3_weigh 8 g ts A) (hQ : RetV p l e (rk 4 106) s m args below meth c cX3_weigh g (WC ts a) A σ' Q) (hk7 : ∀ (σ : St) (o0 : Nat) (x2 : Int32) (x3 : Int32) (H : Heap) (locs : List Loc) (ls : Array Slot), k7 σ o0 x2 x3 = some σ' → va_P g classes (WC ts a σ) H → va_D A (WC ts a σ) → va_S A s.heap H locs → o0 < 6 → lv_has ls 8 [(0, .ref (a 15)), (1, .ref (a (36 + 2 * o0))), (2, .int x2), (3, .int x3)] → W p l e (rk 4 106) s m args below meth c H locs 0 0 Q (F0 m 7 ls [])) : ∀ (σ : St) (o0 : Nat) (x2 : Int32) (x3 : Int32) (x5 : Int64) (H : Heap) (locs : List Loc) (ls : Array Slot), f_X3_weigh_b138 k7 σ o0 x2 x3 x5 = some σ' → va_P g classes (WC ts a σ) H → va_D A (WC ts a σ) → va_S A s.heap H locs → o0 < 6 → lv_has ls 8 [(0, .ref (a 15)), (1, .ref (a (36 + 2 * o0))), (2, .int x2), (3, .int x3), (5, .long x5)] → W p l e (rk 4 106) s m args below meth c H locs 0 0 Q (F0 m 138 ls []) := by
  have hx := C.1
  have hb := C.2.1
  have hown := C.2.2.2.1
  have hts := C.2.2.2.2.1
  intro σ o0 x2 x3 x5 H locs ls hf hP hD hS ho0 hl
  rw [f_X3_weigh_b138] at hf
  refine lv_aload_n hx hb dX3_weigh_138 rfl (lv_at hl 0 rfl) ?_
  refine G_X3_products C hP q_204 dX3_weigh_139 ?_
  refine lv_iload_n hx hb dX3_weigh_142 rfl (lv_at hl 3 rfl) ?_
  refine lv_lload hx hb dX3_weigh_143 (lv_at hl 4 rfl) ?_
  obtain ⟨h26, hf⟩ := chk_some hf
  refine AS_X3_products C hP hD hS h26 dX3_weigh_145 (fun H locs hP hD hS => ?_)
  refine nameS hP hD hf (fun σ27 hP hD hf => ?_)
  refine lv_aload_n hx hb dX3_weigh_146 rfl (lv_at hl 0 rfl) ?_
  refine lv_dup hx hb dX3_weigh_147 rfl ?_
  refine G_X3_all C hP q_206 dX3_weigh_148 ?_
  refine lv_lload hx hb dX3_weigh_151 (lv_at hl 4 rfl) ?_
  refine lv_ladd hx hb dX3_weigh_153 ?_
  refine S_X3_all C hP hD hS q_206 dX3_weigh_154 (fun H locs hP hD hS => ?_)
  obtain ⟨v28, ev28⟩ : ∃ z : Int32, z = x3 + 1 := ⟨_, rfl⟩
  replace hf := bnd_at ev28 hf
  refine lv_iinc (v := v28) (lv' := [(3, .int v28), (0, .ref (a 15)), (1, .ref (a (36 + 2 * o0))), (2, .int x2), (5, .long x5)]) hx hb dX3_weigh_157 hl (k := 3) rfl (by rw [ev28]; rfl) (by decide) rfl (fun ls hl => ?_)
  refine lv_goto (tgt := 7) hx hb dX3_weigh_160 (by decide) ?_
  exact hk7 _ _ _ _ _ _ _ hf hP hD hS ho0 (lv_sub hl [1, 2, 3, 0] rfl)
set_option maxHeartbeats 4000000 in
set_option maxRecDepth 100000 in
theorem w_X3_weigh_b81 {p : Program} {l : Launch} {e : Env} {s : State} {m : MethodId} {args : Array Value} {below : List Frame} {meth : Method} {c : Code} {g : va_G} {ts : ClassId × ClassId × ClassId} {A : Nat → Prop} {Q : State → Prop} {a : Nat → Nat} {σ' : St} {k7 : St → Nat → Int32 → Int32 → Option St} (C : FX p s m args meth c RX3 cX3_weigh 8 g ts A) (hQ : RetV p l e (rk 4 106) s m args below meth c cX3_weigh g (WC ts a) A σ' Q) (hk7 : ∀ (σ : St) (o0 : Nat) (x2 : Int32) (x3 : Int32) (H : Heap) (locs : List Loc) (ls : Array Slot), k7 σ o0 x2 x3 = some σ' → va_P g classes (WC ts a σ) H → va_D A (WC ts a σ) → va_S A s.heap H locs → o0 < 6 → lv_has ls 8 [(0, .ref (a 15)), (1, .ref (a (36 + 2 * o0))), (2, .int x2), (3, .int x3)] → W p l e (rk 4 106) s m args below meth c H locs 0 0 Q (F0 m 7 ls [])) : ∀ (n : Nat) (σ : St) (o0 : Nat) (x2 : Int32) (x3 : Int32) (x5 : Int64) (x7 : Int32) (H : Heap) (locs : List Loc) (ls : Array Slot), f_X3_weigh_b81 k7 n σ o0 x2 x3 x5 x7 = some σ' → va_P g classes (WC ts a σ) H → va_D A (WC ts a σ) → va_S A s.heap H locs → o0 < 6 → lv_has ls 8 [(0, .ref (a 15)), (1, .ref (a (36 + 2 * o0))), (2, .int x2), (3, .int x3), (5, .long x5), (7, .int x7)] → W p l e (rk 4 106) s m args below meth c H locs 0 0 Q (F0 m 81 ls []) := by
  have hx := C.1
  have hb := C.2.1
  have hown := C.2.2.2.1
  have hts := C.2.2.2.2.1
  intro n
  induction n with
  | zero =>
    intro σ o0 x2 x3 x5 x7 H locs ls hf
    cases hf
  | succ n ih =>
    intro σ o0 x2 x3 x5 x7 H locs ls hf hP hD hS ho0 hl
    rw [f_X3_weigh_b81] at hf
    refine lv_iload hx hb dX3_weigh_81 (lv_at hl 5 rfl) ?_
    refine lv_aload_n hx hb dX3_weigh_83 rfl (lv_at hl 0 rfl) ?_
    refine G_X3_names C hP q_202 dX3_weigh_84 ?_
    refine G_X6_sizes C hP q_158 dX3_weigh_87 ?_
    refine lv_iload_n hx hb dX3_weigh_90 rfl (lv_at hl 3 rfl) ?_
    obtain ⟨h12, hf⟩ := chk_some hf
    refine AL_X6_sizes C hP h12 dX3_weigh_91 ?_
    refine lv_icmp_ge (tgt := 138) hx hb dX3_weigh_92 (by decide) (fun c13 => ?_) (fun c13 => ?_)
    · replace hf := ipos c13 hf
      exact w_X3_weigh_b138 C hQ hk7 _ _ _ _ _ _ _ _ hf hP hD hS ho0 (lv_sub hl [0, 1, 2, 3, 4] rfl)
    · replace hf := ineg c13 hf
      refine lv_lload hx hb dX3_weigh_95 (lv_at hl 4 rfl) ?_
      refine lv_lconst (v := 0) hx hb dX3_weigh_97 (by decide) ?_
      refine lb_eq (tgt := 138) hx hb dX3_weigh_98 dX3_weigh_99 (by decide) (fun c14 => ?_) (fun c14 => ?_)
      · replace hf := ipos c14 hf
        exact w_X3_weigh_b138 C hQ hk7 _ _ _ _ _ _ _ _ hf hP hD hS ho0 (lv_sub hl [0, 1, 2, 3, 4] rfl)
      · replace hf := ineg c14 hf
        refine lv_lload hx hb dX3_weigh_102 (lv_at hl 4 rfl) ?_
        refine lv_aload_n hx hb dX3_weigh_104 rfl (lv_at hl 0 rfl) ?_
        refine G_X3_line C hP q_203 dX3_weigh_105 ?_
        refine lv_aload_n hx hb dX3_weigh_108 rfl (lv_at hl 0 rfl) ?_
        refine G_X3_names C hP q_202 dX3_weigh_109 ?_
        refine lv_iload_n hx hb dX3_weigh_112 rfl (lv_at hl 3 rfl) ?_
        refine lv_iload hx hb dX3_weigh_113 (lv_at hl 5 rfl) ?_
        obtain ⟨r16, σ17, h15, hf⟩ := bnd2_some hf
        refine vI [.ref (a 2), .long x5] C hP hD hS (c_X6_at h15) mv_X6_at q_699 rv_X6 dX3_weigh_115 ⟨Nat.le_of_ble_eq_true rfl, Nat.le_of_ble_eq_true rfl⟩ ⟨Nat.zero_le _, Nat.zero_le _⟩ rfl rfl (Nat.le_of_ble_eq_true rfl) hl.1 (fun H locs hP hD hS => ?_)
        refine lv_aload_n hx hb dX3_weigh_118 rfl (lv_at hl 1 rfl) ?_
        refine lv_iload hx hb dX3_weigh_119 (lv_at hl 5 rfl) ?_
        obtain ⟨r19, σ20, h18, hf⟩ := bnd2_some hf
        refine vI [.int r16, .ref (a 2), .long x5] C hP hD hS (c_X8_letterAt ho0 h18) mv_X8_letterAt q_700 (rv_X8 ho0) dX3_weigh_121 ⟨Nat.le_of_ble_eq_true rfl, Nat.le_of_ble_eq_true rfl⟩ ⟨Nat.zero_le _, Nat.zero_le _⟩ rfl rfl (Nat.le_of_ble_eq_true rfl) hl.1 (fun H locs hP hD hS => ?_)
        refine lv_iconst (v := 0) hx hb dX3_weigh_124 (by decide) ?_
        obtain ⟨r22, σ23, h21, hf⟩ := bnd2_some hf
        refine vI [.long x5] C hP hD hS (c_X5_parts h21) mv_X5_parts q_701 rv_X5 dX3_weigh_125 ⟨Nat.le_of_ble_eq_true rfl, Nat.le_of_ble_eq_true rfl⟩ ⟨Nat.zero_le _, Nat.zero_le _⟩ rfl rfl (Nat.le_of_ble_eq_true rfl) hl.1 (fun H locs hP hD hS => ?_)
        refine lv_i2l (v := (r22 : Int32).toInt64) hx hb dX3_weigh_128 rfl ?_
        refine lv_lmul hx hb dX3_weigh_129 ?_
        refine lv_topl (fun v24 ev24 => ?_)
        replace hf := bnd_at ev24 hf
        refine lv_lstore (lv' := [(5, .long v24), (0, .ref (a 15)), (1, .ref (a (36 + 2 * o0))), (2, .int x2), (3, .int x3), (7, .int x7)]) hx hb dX3_weigh_130 hl (by decide) rfl (fun ls hl => ?_)
        obtain ⟨v25, ev25⟩ : ∃ z : Int32, z = x7 + 1 := ⟨_, rfl⟩
        replace hf := bnd_at ev25 hf
        refine lv_iinc (v := v25) (lv' := [(7, .int v25), (5, .long v24), (0, .ref (a 15)), (1, .ref (a (36 + 2 * o0))), (2, .int x2), (3, .int x3)]) hx hb dX3_weigh_132 hl (k := 5) rfl (by rw [ev25]; rfl) (by decide) rfl (fun ls hl => ?_)
        refine lv_goto (tgt := 81) hx hb dX3_weigh_135 (by decide) ?_
        exact ih _ _ _ _ _ _ _ _ _ hf hP hD hS ho0 (lv_sub hl [2, 3, 4, 5, 1, 0] rfl)
set_option maxHeartbeats 4000000 in
set_option maxRecDepth 100000 in
theorem w_X3_weigh_b55 {p : Program} {l : Launch} {e : Env} {s : State} {m : MethodId} {args : Array Value} {below : List Frame} {meth : Method} {c : Code} {g : va_G} {ts : ClassId × ClassId × ClassId} {A : Nat → Prop} {Q : State → Prop} {a : Nat → Nat} {σ' : St} {k7 : St → Nat → Int32 → Int32 → Option St} (C : FX p s m args meth c RX3 cX3_weigh 8 g ts A) (hQ : RetV p l e (rk 4 106) s m args below meth c cX3_weigh g (WC ts a) A σ' Q) (hk7 : ∀ (σ : St) (o0 : Nat) (x2 : Int32) (x3 : Int32) (H : Heap) (locs : List Loc) (ls : Array Slot), k7 σ o0 x2 x3 = some σ' → va_P g classes (WC ts a σ) H → va_D A (WC ts a σ) → va_S A s.heap H locs → o0 < 6 → lv_has ls 8 [(0, .ref (a 15)), (1, .ref (a (36 + 2 * o0))), (2, .int x2), (3, .int x3)] → W p l e (rk 4 106) s m args below meth c H locs 0 0 Q (F0 m 7 ls [])) : ∀ (σ : St) (o0 : Nat) (x2 : Int32) (x3 : Int32) (s0 : Int32) (H : Heap) (locs : List Loc) (ls : Array Slot), f_X3_weigh_b55 k7 σ o0 x2 x3 s0 = some σ' → va_P g classes (WC ts a σ) H → va_D A (WC ts a σ) → va_S A s.heap H locs → o0 < 6 → lv_has ls 8 [(0, .ref (a 15)), (1, .ref (a (36 + 2 * o0))), (2, .int x2), (3, .int x3)] → W p l e (rk 4 106) s m args below meth c H locs 0 0 Q (F0 m 55 ls [.int s0]) := by
  have hx := C.1
  have hb := C.2.1
  have hown := C.2.2.2.1
  have hts := C.2.2.2.2.1
  intro σ o0 x2 x3 s0 H locs ls hf hP hD hS ho0 hl
  rw [f_X3_weigh_b55] at hf
  refine lv_istore (lv' := [(4, .int s0), (0, .ref (a 15)), (1, .ref (a (36 + 2 * o0))), (2, .int x2), (3, .int x3)]) hx hb dX3_weigh_55 hl (by decide) rfl (fun ls hl => ?_)
  refine lv_iload hx hb dX3_weigh_57 (lv_at hl 0 rfl) ?_
  refine lv_if_eq (tgt := 75) hx hb dX3_weigh_59 (by decide) (fun c9 => ?_) (fun c9 => ?_)
  · replace hf := ipos c9 hf
    refine lv_lconst (v := 0) hx hb dX3_weigh_75 (by decide) ?_
    refine lv_lstore (lv' := [(5, .long (0 : Int64)), (4, .int s0), (0, .ref (a 15)), (1, .ref (a (36 + 2 * o0))), (2, .int x2), (3, .int x3)]) hx hb dX3_weigh_76 hl (by decide) rfl (fun ls hl => ?_)
    refine lv_iconst (v := 0) hx hb dX3_weigh_78 (by decide) ?_
    refine lv_istore (lv' := [(7, .int (0 : Int32)), (5, .long (0 : Int64)), (4, .int s0), (0, .ref (a 15)), (1, .ref (a (36 + 2 * o0))), (2, .int x2), (3, .int x3)]) hx hb dX3_weigh_79 hl (by decide) rfl (fun ls hl => ?_)
    exact w_X3_weigh_b81 C hQ hk7 256 _ _ _ _ _ _ _ _ _ hf hP hD hS ho0 (lv_sub hl [3, 4, 5, 6, 1, 0] rfl)
  · replace hf := ineg c9 hf
    refine lv_aload_n hx hb dX3_weigh_62 rfl (lv_at hl 1 rfl) ?_
    refine G_X3_names C hP q_202 dX3_weigh_63 ?_
    refine G_X6_known C hP q_162 dX3_weigh_66 ?_
    refine lv_iload_n hx hb dX3_weigh_69 rfl (lv_at hl 4 rfl) ?_
    obtain ⟨h10, hf⟩ := chk_some hf
    refine AL_X6_known C hP h10 dX3_weigh_70 ?_
    refine lv_i2l (v := ((σ.2.2.1 302 0 x3.toNatClampNeg) : Int32).toInt64) hx hb dX3_weigh_71 rfl ?_
    refine lv_goto (tgt := 76) hx hb dX3_weigh_72 (by decide) ?_
    refine lv_topl (fun v11 ev11 => ?_)
    replace hf := bnd_at ev11 hf
    refine lv_lstore (lv' := [(5, .long v11), (4, .int s0), (0, .ref (a 15)), (1, .ref (a (36 + 2 * o0))), (2, .int x2), (3, .int x3)]) hx hb dX3_weigh_76 hl (by decide) rfl (fun ls hl => ?_)
    refine lv_iconst (v := 0) hx hb dX3_weigh_78 (by decide) ?_
    refine lv_istore (lv' := [(7, .int (0 : Int32)), (5, .long v11), (4, .int s0), (0, .ref (a 15)), (1, .ref (a (36 + 2 * o0))), (2, .int x2), (3, .int x3)]) hx hb dX3_weigh_79 hl (by decide) rfl (fun ls hl => ?_)
    exact w_X3_weigh_b81 C hQ hk7 256 _ _ _ _ _ _ _ _ _ hf hP hD hS ho0 (lv_sub hl [3, 4, 5, 6, 1, 0] rfl)
set_option maxHeartbeats 4000000 in
set_option maxRecDepth 100000 in
theorem w_X3_weigh_b50 {p : Program} {l : Launch} {e : Env} {s : State} {m : MethodId} {args : Array Value} {below : List Frame} {meth : Method} {c : Code} {g : va_G} {ts : ClassId × ClassId × ClassId} {A : Nat → Prop} {Q : State → Prop} {a : Nat → Nat} {σ' : St} {k7 : St → Nat → Int32 → Int32 → Option St} (C : FX p s m args meth c RX3 cX3_weigh 8 g ts A) (hQ : RetV p l e (rk 4 106) s m args below meth c cX3_weigh g (WC ts a) A σ' Q) (hk7 : ∀ (σ : St) (o0 : Nat) (x2 : Int32) (x3 : Int32) (H : Heap) (locs : List Loc) (ls : Array Slot), k7 σ o0 x2 x3 = some σ' → va_P g classes (WC ts a σ) H → va_D A (WC ts a σ) → va_S A s.heap H locs → o0 < 6 → lv_has ls 8 [(0, .ref (a 15)), (1, .ref (a (36 + 2 * o0))), (2, .int x2), (3, .int x3)] → W p l e (rk 4 106) s m args below meth c H locs 0 0 Q (F0 m 7 ls [])) : ∀ (σ : St) (o0 : Nat) (x2 : Int32) (x3 : Int32) (H : Heap) (locs : List Loc) (ls : Array Slot), f_X3_weigh_b50 k7 σ o0 x2 x3 = some σ' → va_P g classes (WC ts a σ) H → va_D A (WC ts a σ) → va_S A s.heap H locs → o0 < 6 → lv_has ls 8 [(0, .ref (a 15)), (1, .ref (a (36 + 2 * o0))), (2, .int x2), (3, .int x3)] → W p l e (rk 4 106) s m args below meth c H locs 0 0 Q (F0 m 50 ls []) := by
  have hx := C.1
  have hb := C.2.1
  have hown := C.2.2.2.1
  have hts := C.2.2.2.2.1
  intro σ o0 x2 x3 H locs ls hf hP hD hS ho0 hl
  rw [f_X3_weigh_b50] at hf
  refine lv_iconst (v := 1) hx hb dX3_weigh_50 (by decide) ?_
  refine lv_goto (tgt := 55) hx hb dX3_weigh_51 (by decide) ?_
  exact w_X3_weigh_b55 C hQ hk7 _ _ _ _ _ _ _ _ hf hP hD hS ho0 (lv_sub hl [0, 1, 2, 3] rfl)
set_option maxHeartbeats 4000000 in
set_option maxRecDepth 100000 in
theorem w_X3_weigh_b54 {p : Program} {l : Launch} {e : Env} {s : State} {m : MethodId} {args : Array Value} {below : List Frame} {meth : Method} {c : Code} {g : va_G} {ts : ClassId × ClassId × ClassId} {A : Nat → Prop} {Q : State → Prop} {a : Nat → Nat} {σ' : St} {k7 : St → Nat → Int32 → Int32 → Option St} (C : FX p s m args meth c RX3 cX3_weigh 8 g ts A) (hQ : RetV p l e (rk 4 106) s m args below meth c cX3_weigh g (WC ts a) A σ' Q) (hk7 : ∀ (σ : St) (o0 : Nat) (x2 : Int32) (x3 : Int32) (H : Heap) (locs : List Loc) (ls : Array Slot), k7 σ o0 x2 x3 = some σ' → va_P g classes (WC ts a σ) H → va_D A (WC ts a σ) → va_S A s.heap H locs → o0 < 6 → lv_has ls 8 [(0, .ref (a 15)), (1, .ref (a (36 + 2 * o0))), (2, .int x2), (3, .int x3)] → W p l e (rk 4 106) s m args below meth c H locs 0 0 Q (F0 m 7 ls [])) : ∀ (σ : St) (o0 : Nat) (x2 : Int32) (x3 : Int32) (H : Heap) (locs : List Loc) (ls : Array Slot), f_X3_weigh_b54 k7 σ o0 x2 x3 = some σ' → va_P g classes (WC ts a σ) H → va_D A (WC ts a σ) → va_S A s.heap H locs → o0 < 6 → lv_has ls 8 [(0, .ref (a 15)), (1, .ref (a (36 + 2 * o0))), (2, .int x2), (3, .int x3)] → W p l e (rk 4 106) s m args below meth c H locs 0 0 Q (F0 m 54 ls []) := by
  have hx := C.1
  have hb := C.2.1
  have hown := C.2.2.2.1
  have hts := C.2.2.2.2.1
  intro σ o0 x2 x3 H locs ls hf hP hD hS ho0 hl
  rw [f_X3_weigh_b54] at hf
  refine lv_iconst (v := 0) hx hb dX3_weigh_54 (by decide) ?_
  exact w_X3_weigh_b55 C hQ hk7 _ _ _ _ _ _ _ _ hf hP hD hS ho0 (lv_sub hl [0, 1, 2, 3] rfl)
set_option maxHeartbeats 4000000 in
set_option maxRecDepth 100000 in
theorem w_X3_weigh_b7 {p : Program} {l : Launch} {e : Env} {s : State} {m : MethodId} {args : Array Value} {below : List Frame} {meth : Method} {c : Code} {g : va_G} {ts : ClassId × ClassId × ClassId} {A : Nat → Prop} {Q : State → Prop} {a : Nat → Nat} {σ' : St} (C : FX p s m args meth c RX3 cX3_weigh 8 g ts A) (hQ : RetV p l e (rk 4 106) s m args below meth c cX3_weigh g (WC ts a) A σ' Q) : ∀ (n : Nat) (σ : St) (o0 : Nat) (x2 : Int32) (x3 : Int32) (H : Heap) (locs : List Loc) (ls : Array Slot), f_X3_weigh_b7 n σ o0 x2 x3 = some σ' → va_P g classes (WC ts a σ) H → va_D A (WC ts a σ) → va_S A s.heap H locs → o0 < 6 → lv_has ls 8 [(0, .ref (a 15)), (1, .ref (a (36 + 2 * o0))), (2, .int x2), (3, .int x3)] → W p l e (rk 4 106) s m args below meth c H locs 0 0 Q (F0 m 7 ls []) := by
  have hx := C.1
  have hb := C.2.1
  have hown := C.2.2.2.1
  have hts := C.2.2.2.2.1
  intro n
  induction n with
  | zero =>
    intro σ o0 x2 x3 H locs ls hf
    cases hf
  | succ n ih =>
    intro σ o0 x2 x3 H locs ls hf hP hD hS ho0 hl
    rw [f_X3_weigh_b7] at hf
    refine lv_iload_n hx hb dX3_weigh_7 rfl (lv_at hl 3 rfl) ?_
    refine lv_aload_n hx hb dX3_weigh_8 rfl (lv_at hl 0 rfl) ?_
    refine G_X3_names C hP q_202 dX3_weigh_9 ?_
    refine G_X6_number C hP q_165 dX3_weigh_12 ?_
    refine lv_icmp_ge (tgt := 163) hx hb dX3_weigh_15 (by decide) (fun c1 => ?_) (fun c1 => ?_)
    · replace hf := ipos c1 hf
      exact retV hQ hf dX3_weigh_163 hP hD hS
    · replace hf := ineg c1 hf
      refine lv_aload_n hx hb dX3_weigh_18 rfl (lv_at hl 0 rfl) ?_
      refine G_X3_names C hP q_202 dX3_weigh_19 ?_
      refine G_X6_sizes C hP q_158 dX3_weigh_22 ?_
      refine lv_iload_n hx hb dX3_weigh_25 rfl (lv_at hl 3 rfl) ?_
      obtain ⟨h2, hf⟩ := chk_some hf
      refine AL_X6_sizes C hP h2 dX3_weigh_26 ?_
      refine lv_aload_n hx hb dX3_weigh_27 rfl (lv_at hl 1 rfl) ?_
      refine G_X8_length ho0 C hP q_367 dX3_weigh_28 ?_
      refine lv_icmp_ne (tgt := 54) hx hb dX3_weigh_31 (by decide) (fun c3 => ?_) (fun c3 => ?_)
      · replace hf := ineg c3 hf
        exact w_X3_weigh_b54 C hQ ih _ _ _ _ _ _ _ hf hP hD hS ho0 (lv_sub hl [0, 1, 2, 3] rfl)
      · replace hf := ipos c3 hf
        refine lv_iload_n hx hb dX3_weigh_34 rfl (lv_at hl 2 rfl) ?_
        refine lv_if_lt (tgt := 50) hx hb dX3_weigh_35 (by decide) (fun c4 => ?_) (fun c4 => ?_)
        · replace hf := ipos c4 hf
          exact w_X3_weigh_b50 C hQ ih _ _ _ _ _ _ _ hf hP hD hS ho0 (lv_sub hl [0, 1, 2, 3] rfl)
        · replace hf := ineg c4 hf
          refine lv_aload_n hx hb dX3_weigh_38 rfl (lv_at hl 0 rfl) ?_
          refine G_X3_names C hP q_202 dX3_weigh_39 ?_
          refine lv_iload_n hx hb dX3_weigh_42 rfl (lv_at hl 3 rfl) ?_
          obtain ⟨r6, σ7, h5, hf⟩ := bnd2_some hf
          refine vI [] C hP hD hS (c_X6_sumOf h5) mv_X6_sumOf q_694 rv_X6 dX3_weigh_43 ⟨Nat.le_of_ble_eq_true rfl, Nat.le_of_ble_eq_true rfl⟩ ⟨Nat.zero_le _, Nat.zero_le _⟩ rfl rfl (Nat.le_of_ble_eq_true rfl) hl.1 (fun H locs hP hD hS => ?_)
          refine lv_iload_n hx hb dX3_weigh_46 rfl (lv_at hl 2 rfl) ?_
          refine lv_icmp_ne (tgt := 54) hx hb dX3_weigh_47 (by decide) (fun c8 => ?_) (fun c8 => ?_)
          · replace hf := ineg c8 hf
            exact w_X3_weigh_b54 C hQ ih _ _ _ _ _ _ _ hf hP hD hS ho0 (lv_sub hl [0, 1, 2, 3] rfl)
          · replace hf := ipos c8 hf
            exact w_X3_weigh_b50 C hQ ih _ _ _ _ _ _ _ hf hP hD hS ho0 (lv_sub hl [0, 1, 2, 3] rfl)
set_option maxHeartbeats 4000000 in
set_option maxRecDepth 100000 in
theorem c_X3_weigh {l : Launch} {g : va_G} {ts : ClassId × ClassId × ClassId} {a : Nat → Nat} {σ : St} {i1 : Nat} {p2 : Int32} {σ' : St} (hi1 : i1 < 6) (hf : f_X3_weigh σ i1 p2 = some σ') : ConV l g ts (WC ts a) yX3_weigh cX3_weigh 8 none (rk 4 106) σ [.ref (a 15), .ref (a (36 + 2 * i1)), .int p2] σ' := by
  refine ConV_mk rfl rfl (by decide) (Nat.le_of_ble_eq_true rfl) ?_
  intro p e s m below meth c A Q ls C hQ hP hD hS hl
  have C : FX p s m _ meth c RX3 cX3_weigh 8 g ts A := C
  have hx := C.1
  have hb := C.2.1
  have hown := C.2.2.2.1
  have hts := C.2.2.2.2.1
  have hl : lv_has ls 8 [(0, .ref (a 15)), (1, .ref (a (36 + 2 * i1))), (2, .int p2)] := hl
  rw [f_X3_weigh] at hf
  refine lv_aload_n hx hb dX3_weigh_0 rfl (lv_at hl 0 rfl) ?_
  refine lv_lconst (v := 0) hx hb dX3_weigh_1 (by decide) ?_
  refine S_X3_all C hP hD hS q_206 dX3_weigh_2 (fun H locs hP hD hS => ?_)
  refine lv_iconst (v := 0) hx hb dX3_weigh_5 (by decide) ?_
  refine lv_istore_n (lv' := [(3, .int (0 : Int32)), (0, .ref (a 15)), (1, .ref (a (36 + 2 * i1))), (2, .int p2)]) hx hb dX3_weigh_6 rfl hl (by decide) rfl (fun ls hl => ?_)
  exact w_X3_weigh_b7 C hQ 256 _ _ _ _ _ _ _ hf hP hD hS hi1 (lv_sub hl [1, 2, 3, 0] rfl)
theorem dX3_best_0 : decode cX3_best 0 = .ok (.bipush (-2), 2) := by decide +kernel
theorem dX3_best_2 : decode cX3_best 2 = .ok (.istore_n 1, 1) := by decide +kernel
theorem dX3_best_3 : decode cX3_best 3 = .ok (.lconst 0, 1) := by decide +kernel
theorem dX3_best_4 : decode cX3_best 4 = .ok (.lstore_n 2, 1) := by decide +kernel
theorem dX3_best_5 : decode cX3_best 5 = .ok (.iconst 0, 1) := by decide +kernel
theorem dX3_best_6 : decode cX3_best 6 = .ok (.istore 4, 2) := by decide +kernel
theorem dX3_best_8 : decode cX3_best 8 = .ok (.iload 4, 2) := by decide +kernel
theorem dX3_best_10 : decode cX3_best 10 = .ok (.aload_n 0, 1) := by decide +kernel
theorem dX3_best_11 : decode cX3_best 11 = .ok (.getfield 15, 3) := by decide +kernel
theorem dX3_best_14 : decode cX3_best 14 = .ok (.getfield 27, 3) := by decide +kernel
theorem dX3_best_17 : decode cX3_best 17 = .ok (.if_icmp .ge 32, 3) := by decide +kernel
theorem dX3_best_20 : decode cX3_best 20 = .ok (.aload_n 0, 1) := by decide +kernel
theorem dX3_best_21 : decode cX3_best 21 = .ok (.getfield 9, 3) := by decide +kernel
theorem dX3_best_24 : decode cX3_best 24 = .ok (.iload 4, 2) := by decide +kernel
theorem dX3_best_26 : decode cX3_best 26 = .ok (.laload, 1) := by decide +kernel
theorem dX3_best_27 : decode cX3_best 27 = .ok (.lload_n 2, 1) := by decide +kernel
theorem dX3_best_28 : decode cX3_best 28 = .ok (.lcmp, 1) := by decide +kernel
theorem dX3_best_29 : decode cX3_best 29 = .ok (.ifCond .le 14, 3) := by decide +kernel
theorem dX3_best_32 : decode cX3_best 32 = .ok (.iload 4, 2) := by decide +kernel
theorem dX3_best_34 : decode cX3_best 34 = .ok (.istore_n 1, 1) := by decide +kernel
theorem dX3_best_35 : decode cX3_best 35 = .ok (.aload_n 0, 1) := by decide +kernel
theorem dX3_best_36 : decode cX3_best 36 = .ok (.getfield 9, 3) := by decide +kernel
theorem dX3_best_39 : decode cX3_best 39 = .ok (.iload 4, 2) := by decide +kernel
theorem dX3_best_41 : decode cX3_best 41 = .ok (.laload, 1) := by decide +kernel
theorem dX3_best_42 : decode cX3_best 42 = .ok (.lstore_n 2, 1) := by decide +kernel
theorem dX3_best_43 : decode cX3_best 43 = .ok (.iinc 4 1, 3) := by decide +kernel
theorem dX3_best_46 : decode cX3_best 46 = .ok (.goto (-38), 3) := by decide +kernel
theorem dX3_best_49 : decode cX3_best 49 = .ok (.iload_n 1, 1) := by decide +kernel
theorem dX3_best_50 : decode cX3_best 50 = .ok (.ireturn, 1) := by decide +kernel
def f_X3_best_b8 : Nat → St → Int32 → Int64 → Int32 → Option (Int32 × St)
  | 0, _, _, _, _ => none
  | n + 1, σ, x1, x2, x4 => if σ.1 303 0 ≤ x4 then (some (x1, σ)) else (chk (x4 < 0 ∨ 10 ≤ x4.toNatClampNeg) (if σ.2.2.2.1 152 0 x4.toNatClampNeg ≤ x2 then (bnd (x4 + 1) (fun v4 => f_X3_best_b8 n σ x1 x2 v4)) else (chk (x4 < 0 ∨ 10 ≤ x4.toNatClampNeg) (bnd (σ.2.2.2.1 152 0 x4.toNatClampNeg) (fun v6 => bnd (x4 + 1) (fun v7 => f_X3_best_b8 n σ x4 v6 v7))))))
def f_X3_best (σ : St) : Option (Int32 × St) := f_X3_best_b8 256 σ (-2 : Int32) (0 : Int64) (0 : Int32)
set_option maxHeartbeats 4000000 in
set_option maxRecDepth 100000 in
theorem w_X3_best_b8 {p : Program} {l : Launch} {e : Env} {s : State} {m : MethodId} {args : Array Value} {below : List Frame} {meth : Method} {c : Code} {g : va_G} {ts : ClassId × ClassId × ClassId} {A : Nat → Prop} {Q : State → Prop} {a : Nat → Nat} {r : Int32} {σ' : St} (C : FX p s m args meth c RX3 cX3_best 5 g ts A) (hQ : RetI p l e (rk 0 0) s m args below meth c cX3_best g (WC ts a) A r σ' Q) : ∀ (n : Nat) (σ : St) (x1 : Int32) (x2 : Int64) (x4 : Int32) (H : Heap) (locs : List Loc) (ls : Array Slot), f_X3_best_b8 n σ x1 x2 x4 = some (r, σ') → va_P g classes (WC ts a σ) H → va_D A (WC ts a σ) → va_S A s.heap H locs → lv_has ls 5 [(0, .ref (a 15)), (1, .int x1), (2, .long x2), (4, .int x4)] → W p l e (rk 0 0) s m args below meth c H locs 0 0 Q (F0 m 8 ls []) := by
  have hx := C.1
  have hb := C.2.1
  have hown := C.2.2.2.1
  have hts := C.2.2.2.2.1
  intro n
  induction n with
  | zero =>
    intro σ x1 x2 x4 H locs ls hf
    cases hf
  | succ n ih =>
    intro σ x1 x2 x4 H locs ls hf hP hD hS hl
    rw [f_X3_best_b8] at hf
    refine lv_iload hx hb dX3_best_8 (lv_at hl 3 rfl) ?_
    refine lv_aload_n hx hb dX3_best_10 rfl (lv_at hl 0 rfl) ?_
    refine G_X3_names C hP q_202 dX3_best_11 ?_
    refine G_X6_number C hP q_165 dX3_best_14 ?_
    refine lv_icmp_ge (tgt := 49) hx hb dX3_best_17 (by decide) (fun c1 => ?_) (fun c1 => ?_)
    · replace hf := ipos c1 hf
      refine lv_iload_n hx hb dX3_best_49 rfl (lv_at hl 1 rfl) ?_
      exact retI hQ hf dX3_best_50 hP hD hS
    · replace hf := ineg c1 hf
      refine lv_aload_n hx hb dX3_best_20 rfl (lv_at hl 0 rfl) ?_
      refine G_X3_products C hP q_204 dX3_best_21 ?_
      refine lv_iload hx hb dX3_best_24 (lv_at hl 3 rfl) ?_
      obtain ⟨h2, hf⟩ := chk_some hf
      refine AL_X3_products C hP h2 dX3_best_26 ?_
      refine lv_lload_n hx hb dX3_best_27 rfl (lv_at hl 2 rfl) ?_
      refine lb_le (tgt := 43) hx hb dX3_best_28 dX3_best_29 (by decide) (fun c3 => ?_) (fun c3 => ?_)
      · replace hf := ipos c3 hf
        obtain ⟨v4, ev4⟩ : ∃ z : Int32, z = x4 + 1 := ⟨_, rfl⟩
        replace hf := bnd_at ev4 hf
        refine lv_iinc (v := v4) (lv' := [(4, .int v4), (0, .ref (a 15)), (1, .int x1), (2, .long x2)]) hx hb dX3_best_43 hl (k := 3) rfl (by rw [ev4]; rfl) (by decide) rfl (fun ls hl => ?_)
        refine lv_goto (tgt := 8) hx hb dX3_best_46 (by decide) ?_
        exact ih _ _ _ _ _ _ _ hf hP hD hS (lv_sub hl [1, 2, 3, 0] rfl)
      · replace hf := ineg c3 hf
        refine lv_iload hx hb dX3_best_32 (lv_at hl 3 rfl) ?_
        refine lv_istore_n (lv' := [(1, .int x4), (0, .ref (a 15)), (2, .long x2), (4, .int x4)]) hx hb dX3_best_34 rfl hl (by decide) rfl (fun ls hl => ?_)
        refine lv_aload_n hx hb dX3_best_35 rfl (lv_at hl 1 rfl) ?_
        refine G_X3_products C hP q_204 dX3_best_36 ?_
        refine lv_iload hx hb dX3_best_39 (lv_at hl 3 rfl) ?_
        obtain ⟨h5, hf⟩ := chk_some hf
        refine AL_X3_products C hP h5 dX3_best_41 ?_
        refine lv_topl (fun v6 ev6 => ?_)
        replace hf := bnd_at ev6 hf
        refine lv_lstore_n (lv' := [(2, .long v6), (1, .int x4), (0, .ref (a 15)), (4, .int x4)]) hx hb dX3_best_42 rfl hl (by decide) rfl (fun ls hl => ?_)
        obtain ⟨v7, ev7⟩ : ∃ z : Int32, z = x4 + 1 := ⟨_, rfl⟩
        replace hf := bnd_at ev7 hf
        refine lv_iinc (v := v7) (lv' := [(4, .int v7), (2, .long v6), (1, .int x4), (0, .ref (a 15))]) hx hb dX3_best_43 hl (k := 3) rfl (by rw [ev7]; rfl) (by decide) rfl (fun ls hl => ?_)
        refine lv_goto (tgt := 8) hx hb dX3_best_46 (by decide) ?_
        exact ih _ _ _ _ _ _ _ hf hP hD hS (lv_sub hl [3, 2, 1, 0] rfl)
set_option maxHeartbeats 4000000 in
set_option maxRecDepth 100000 in
theorem c_X3_best {l : Launch} {g : va_G} {ts : ClassId × ClassId × ClassId} {a : Nat → Nat} {σ : St} {r : Int32} {σ' : St} (hf : f_X3_best σ = some (r, σ')) : ConI l g ts (WC ts a) yX3_best cX3_best 5 (some .int) (rk 0 0) σ [.ref (a 15)] r σ' := by
  refine ConI_mk .int rfl rfl rfl rfl (by decide) (Nat.le_of_ble_eq_true rfl) ?_
  intro p e s m below meth c A Q ls C hQ hP hD hS hl
  have C : FX p s m _ meth c RX3 cX3_best 5 g ts A := C
  have hx := C.1
  have hb := C.2.1
  have hown := C.2.2.2.1
  have hts := C.2.2.2.2.1
  have hl : lv_has ls 5 [(0, .ref (a 15))] := hl
  rw [f_X3_best] at hf
  refine lv_bipush (v := -2) hx hb dX3_best_0 (by decide) ?_
  refine lv_istore_n (lv' := [(1, .int (-2 : Int32)), (0, .ref (a 15))]) hx hb dX3_best_2 rfl hl (by decide) rfl (fun ls hl => ?_)
  refine lv_lconst (v := 0) hx hb dX3_best_3 (by decide) ?_
  refine lv_lstore_n (lv' := [(2, .long (0 : Int64)), (1, .int (-2 : Int32)), (0, .ref (a 15))]) hx hb dX3_best_4 rfl hl (by decide) rfl (fun ls hl => ?_)
  refine lv_iconst (v := 0) hx hb dX3_best_5 (by decide) ?_
  refine lv_istore (lv' := [(4, .int (0 : Int32)), (2, .long (0 : Int64)), (1, .int (-2 : Int32)), (0, .ref (a 15))]) hx hb dX3_best_6 hl (by decide) rfl (fun ls hl => ?_)
  exact w_X3_best_b8 C hQ 256 _ _ _ _ _ _ _ hf hP hD hS (lv_sub hl [3, 2, 1, 0] rfl)
theorem dX3_onceMore_0 : decode cX3_onceMore 0 = .ok (.lconst 0, 1) := by decide +kernel
theorem dX3_onceMore_1 : decode cX3_onceMore 1 = .ok (.lstore_n 2, 1) := by decide +kernel
theorem dX3_onceMore_2 : decode cX3_onceMore 2 = .ok (.iconst 0, 1) := by decide +kernel
theorem dX3_onceMore_3 : decode cX3_onceMore 3 = .ok (.istore 4, 2) := by decide +kernel
theorem dX3_onceMore_5 : decode cX3_onceMore 5 = .ok (.iload 4, 2) := by decide +kernel
theorem dX3_onceMore_7 : decode cX3_onceMore 7 = .ok (.bipush 12, 2) := by decide +kernel
theorem dX3_onceMore_9 : decode cX3_onceMore 9 = .ok (.if_icmp .ge 104, 3) := by decide +kernel
theorem dX3_onceMore_12 : decode cX3_onceMore 12 = .ok (.lconst 0, 1) := by decide +kernel
theorem dX3_onceMore_13 : decode cX3_onceMore 13 = .ok (.lstore 5, 2) := by decide +kernel
theorem dX3_onceMore_15 : decode cX3_onceMore 15 = .ok (.iconst 0, 1) := by decide +kernel
theorem dX3_onceMore_16 : decode cX3_onceMore 16 = .ok (.istore 7, 2) := by decide +kernel
theorem dX3_onceMore_18 : decode cX3_onceMore 18 = .ok (.iload 7, 2) := by decide +kernel
theorem dX3_onceMore_20 : decode cX3_onceMore 20 = .ok (.aload_n 0, 1) := by decide +kernel
theorem dX3_onceMore_21 : decode cX3_onceMore 21 = .ok (.getfield 15, 3) := by decide +kernel
theorem dX3_onceMore_24 : decode cX3_onceMore 24 = .ok (.getfield 27, 3) := by decide +kernel
theorem dX3_onceMore_27 : decode cX3_onceMore 27 = .ok (.if_icmp .ge 75, 3) := by decide +kernel
theorem dX3_onceMore_30 : decode cX3_onceMore 30 = .ok (.aload_n 0, 1) := by decide +kernel
theorem dX3_onceMore_31 : decode cX3_onceMore 31 = .ok (.getfield 9, 3) := by decide +kernel
theorem dX3_onceMore_34 : decode cX3_onceMore 34 = .ok (.iload 7, 2) := by decide +kernel
theorem dX3_onceMore_36 : decode cX3_onceMore 36 = .ok (.laload, 1) := by decide +kernel
theorem dX3_onceMore_37 : decode cX3_onceMore 37 = .ok (.lconst 0, 1) := by decide +kernel
theorem dX3_onceMore_38 : decode cX3_onceMore 38 = .ok (.lcmp, 1) := by decide +kernel
theorem dX3_onceMore_39 : decode cX3_onceMore 39 = .ok (.ifCond .le 57, 3) := by decide +kernel
theorem dX3_onceMore_42 : decode cX3_onceMore 42 = .ok (.iload_n 1, 1) := by decide +kernel
theorem dX3_onceMore_43 : decode cX3_onceMore 43 = .ok (.aload_n 0, 1) := by decide +kernel
theorem dX3_onceMore_44 : decode cX3_onceMore 44 = .ok (.getfield 15, 3) := by decide +kernel
theorem dX3_onceMore_47 : decode cX3_onceMore 47 = .ok (.getfield 33, 3) := by decide +kernel
theorem dX3_onceMore_50 : decode cX3_onceMore 50 = .ok (.iload 7, 2) := by decide +kernel
theorem dX3_onceMore_52 : decode cX3_onceMore 52 = .ok (.iaload, 1) := by decide +kernel
theorem dX3_onceMore_53 : decode cX3_onceMore 53 = .ok (.if_icmp .ge 43, 3) := by decide +kernel
theorem dX3_onceMore_56 : decode cX3_onceMore 56 = .ok (.aload_n 0, 1) := by decide +kernel
theorem dX3_onceMore_57 : decode cX3_onceMore 57 = .ok (.getfield 9, 3) := by decide +kernel
theorem dX3_onceMore_60 : decode cX3_onceMore 60 = .ok (.iload 7, 2) := by decide +kernel
theorem dX3_onceMore_62 : decode cX3_onceMore 62 = .ok (.laload, 1) := by decide +kernel
theorem dX3_onceMore_63 : decode cX3_onceMore 63 = .ok (.aload_n 0, 1) := by decide +kernel
theorem dX3_onceMore_64 : decode cX3_onceMore 64 = .ok (.getfield 19, 3) := by decide +kernel
theorem dX3_onceMore_67 : decode cX3_onceMore 67 = .ok (.aload_n 0, 1) := by decide +kernel
theorem dX3_onceMore_68 : decode cX3_onceMore 68 = .ok (.getfield 15, 3) := by decide +kernel
theorem dX3_onceMore_71 : decode cX3_onceMore 71 = .ok (.iload 7, 2) := by decide +kernel
theorem dX3_onceMore_73 : decode cX3_onceMore 73 = .ok (.iload_n 1, 1) := by decide +kernel
theorem dX3_onceMore_74 : decode cX3_onceMore 74 = .ok (.invokevirtual 49, 3) := by decide +kernel
theorem dX3_onceMore_77 : decode cX3_onceMore 77 = .ok (.iload 4, 2) := by decide +kernel
theorem dX3_onceMore_79 : decode cX3_onceMore 79 = .ok (.iconst 1, 1) := by decide +kernel
theorem dX3_onceMore_80 : decode cX3_onceMore 80 = .ok (.invokevirtual 56, 3) := by decide +kernel
theorem dX3_onceMore_83 : decode cX3_onceMore 83 = .ok (.i2l, 1) := by decide +kernel
theorem dX3_onceMore_84 : decode cX3_onceMore 84 = .ok (.lmul, 1) := by decide +kernel
theorem dX3_onceMore_85 : decode cX3_onceMore 85 = .ok (.lstore 8, 2) := by decide +kernel
theorem dX3_onceMore_87 : decode cX3_onceMore 87 = .ok (.lload 5, 2) := by decide +kernel
theorem dX3_onceMore_89 : decode cX3_onceMore 89 = .ok (.lload 8, 2) := by decide +kernel
theorem dX3_onceMore_91 : decode cX3_onceMore 91 = .ok (.invokestatic 68, 3) := by decide +kernel
theorem dX3_onceMore_94 : decode cX3_onceMore 94 = .ok (.lstore 5, 2) := by decide +kernel
theorem dX3_onceMore_96 : decode cX3_onceMore 96 = .ok (.iinc 7 1, 3) := by decide +kernel
theorem dX3_onceMore_99 : decode cX3_onceMore 99 = .ok (.goto (-81), 3) := by decide +kernel
theorem dX3_onceMore_102 : decode cX3_onceMore 102 = .ok (.lload_n 2, 1) := by decide +kernel
theorem dX3_onceMore_103 : decode cX3_onceMore 103 = .ok (.lload 5, 2) := by decide +kernel
theorem dX3_onceMore_105 : decode cX3_onceMore 105 = .ok (.ladd, 1) := by decide +kernel
theorem dX3_onceMore_106 : decode cX3_onceMore 106 = .ok (.lstore_n 2, 1) := by decide +kernel
theorem dX3_onceMore_107 : decode cX3_onceMore 107 = .ok (.iinc 4 1, 3) := by decide +kernel
theorem dX3_onceMore_110 : decode cX3_onceMore 110 = .ok (.goto (-105), 3) := by decide +kernel
theorem dX3_onceMore_113 : decode cX3_onceMore 113 = .ok (.lload_n 2, 1) := by decide +kernel
theorem dX3_onceMore_114 : decode cX3_onceMore 114 = .ok (.lreturn, 1) := by decide +kernel
def f_X3_onceMore_b18 (k5 : St → Int32 → Int64 → Int32 → Option (Int64 × St)) : Nat → St → Int32 → Int64 → Int32 → Int64 → Int32 → Option (Int64 × St)
  | 0, _, _, _, _, _, _ => none
  | n + 1, σ, x1, x2, x4, x5, x7 => if σ.1 303 0 ≤ x7 then (bnd (x2 + x5) (fun v3 => bnd (x4 + 1) (fun v4 => k5 σ x1 v3 v4))) else (chk (x7 < 0 ∨ 10 ≤ x7.toNatClampNeg) (if σ.2.2.2.1 152 0 x7.toNatClampNeg ≤ (0 : Int64) then (bnd (x7 + 1) (fun v7 => f_X3_onceMore_b18 k5 n σ x1 x2 x4 x5 v7)) else (chk (x7 < 0 ∨ 10 ≤ x7.toNatClampNeg) (if σ.2.2.1 301 0 x7.toNatClampNeg ≤ x1 then (bnd (x7 + 1) (fun v10 => f_X3_onceMore_b18 k5 n σ x1 x2 x4 x5 v10)) else (chk (x7 < 0 ∨ 10 ≤ x7.toNatClampNeg) (bnd2 (f_X6_at σ x7 x1) (fun r13 σ14 => bnd2 (f_X5_parts σ14 r13 x4 (1 : Int32)) (fun r16 σ17 => bnd ((σ.2.2.2.1 152 0 x7.toNatClampNeg) * ((r16 : Int32).toInt64)) (fun v18 => bnd (if v18 < x5 then x5 else v18) (fun v19 => bnd (x7 + 1) (fun v20 => f_X3_onceMore_b18 k5 n σ17 x1 x2 x4 v19 v20)))))))))))
def f_X3_onceMore_b5 : Nat → St → Int32 → Int64 → Int32 → Option (Int64 × St)
  | 0, _, _, _, _ => none
  | n + 1, σ, x1, x2, x4 => if (12 : Int32) ≤ x4 then (some (x2, σ)) else (f_X3_onceMore_b18 (f_X3_onceMore_b5 n) 256 σ x1 x2 x4 (0 : Int64) (0 : Int32))
def f_X3_onceMore (σ : St) (p1 : Int32) : Option (Int64 × St) := f_X3_onceMore_b5 256 σ p1 (0 : Int64) (0 : Int32)
set_option maxHeartbeats 4000000 in
set_option maxRecDepth 100000 in
theorem w_X3_onceMore_b18 {p : Program} {l : Launch} {e : Env} {s : State} {m : MethodId} {args : Array Value} {below : List Frame} {meth : Method} {c : Code} {g : va_G} {ts : ClassId × ClassId × ClassId} {A : Nat → Prop} {Q : State → Prop} {a : Nat → Nat} {r : Int64} {σ' : St} {k5 : St → Int32 → Int64 → Int32 → Option (Int64 × St)} (C : FX p s m args meth c RX3 cX3_onceMore 10 g ts A) (hQ : RetL p l e (rk 4 106) s m args below meth c cX3_onceMore g (WC ts a) A r σ' Q) (hk5 : ∀ (σ : St) (x1 : Int32) (x2 : Int64) (x4 : Int32) (H : Heap) (locs : List Loc) (ls : Array Slot), k5 σ x1 x2 x4 = some (r, σ') → va_P g classes (WC ts a σ) H → va_D A (WC ts a σ) → va_S A s.heap H locs → lv_has ls 10 [(0, .ref (a 15)), (1, .int x1), (2, .long x2), (4, .int x4)] → W p l e (rk 4 106) s m args below meth c H locs 0 0 Q (F0 m 5 ls [])) : ∀ (n : Nat) (σ : St) (x1 : Int32) (x2 : Int64) (x4 : Int32) (x5 : Int64) (x7 : Int32) (H : Heap) (locs : List Loc) (ls : Array Slot), f_X3_onceMore_b18 k5 n σ x1 x2 x4 x5 x7 = some (r, σ') → va_P g classes (WC ts a σ) H → va_D A (WC ts a σ) → va_S A s.heap H locs → lv_has ls 10 [(0, .ref (a 15)), (1, .int x1), (2, .long x2), (4, .int x4), (5, .long x5), (7, .int x7)] → W p l e (rk 4 106) s m args below meth c H locs 0 0 Q (F0 m 18 ls []) := by
  have hx := C.1
  have hb := C.2.1
  have hown := C.2.2.2.1
  have hts := C.2.2.2.2.1
  intro n
  induction n with
  | zero =>
    intro σ x1 x2 x4 x5 x7 H locs ls hf
    cases hf
  | succ n ih =>
    intro σ x1 x2 x4 x5 x7 H locs ls hf hP hD hS hl
    rw [f_X3_onceMore_b18] at hf
    refine lv_iload hx hb dX3_onceMore_18 (lv_at hl 5 rfl) ?_
    refine lv_aload_n hx hb dX3_onceMore_20 rfl (lv_at hl 0 rfl) ?_
    refine G_X3_names C hP q_202 dX3_onceMore_21 ?_
    refine G_X6_number C hP q_165 dX3_onceMore_24 ?_
    refine lv_icmp_ge (tgt := 102) hx hb dX3_onceMore_27 (by decide) (fun c2 => ?_) (fun c2 => ?_)
    · replace hf := ipos c2 hf
      refine lv_lload_n hx hb dX3_onceMore_102 rfl (lv_at hl 2 rfl) ?_
      refine lv_lload hx hb dX3_onceMore_103 (lv_at hl 4 rfl) ?_
      refine lv_ladd hx hb dX3_onceMore_105 ?_
      refine lv_topl (fun v3 ev3 => ?_)
      replace hf := bnd_at ev3 hf
      refine lv_lstore_n (lv' := [(2, .long v3), (0, .ref (a 15)), (1, .int x1), (4, .int x4), (5, .long x5), (7, .int x7)]) hx hb dX3_onceMore_106 rfl hl (by decide) rfl (fun ls hl => ?_)
      obtain ⟨v4, ev4⟩ : ∃ z : Int32, z = x4 + 1 := ⟨_, rfl⟩
      replace hf := bnd_at ev4 hf
      refine lv_iinc (v := v4) (lv' := [(4, .int v4), (2, .long v3), (0, .ref (a 15)), (1, .int x1), (5, .long x5), (7, .int x7)]) hx hb dX3_onceMore_107 hl (k := 3) rfl (by rw [ev4]; rfl) (by decide) rfl (fun ls hl => ?_)
      refine lv_goto (tgt := 5) hx hb dX3_onceMore_110 (by decide) ?_
      exact hk5 _ _ _ _ _ _ _ hf hP hD hS (lv_sub hl [2, 3, 1, 0] rfl)
    · replace hf := ineg c2 hf
      refine lv_aload_n hx hb dX3_onceMore_30 rfl (lv_at hl 0 rfl) ?_
      refine G_X3_products C hP q_204 dX3_onceMore_31 ?_
      refine lv_iload hx hb dX3_onceMore_34 (lv_at hl 5 rfl) ?_
      obtain ⟨h5, hf⟩ := chk_some hf
      refine AL_X3_products C hP h5 dX3_onceMore_36 ?_
      refine lv_lconst (v := 0) hx hb dX3_onceMore_37 (by decide) ?_
      refine lb_le (tgt := 96) hx hb dX3_onceMore_38 dX3_onceMore_39 (by decide) (fun c6 => ?_) (fun c6 => ?_)
      · replace hf := ipos c6 hf
        obtain ⟨v7, ev7⟩ : ∃ z : Int32, z = x7 + 1 := ⟨_, rfl⟩
        replace hf := bnd_at ev7 hf
        refine lv_iinc (v := v7) (lv' := [(7, .int v7), (0, .ref (a 15)), (1, .int x1), (2, .long x2), (4, .int x4), (5, .long x5)]) hx hb dX3_onceMore_96 hl (k := 5) rfl (by rw [ev7]; rfl) (by decide) rfl (fun ls hl => ?_)
        refine lv_goto (tgt := 18) hx hb dX3_onceMore_99 (by decide) ?_
        exact ih _ _ _ _ _ _ _ _ _ hf hP hD hS (lv_sub hl [1, 2, 3, 4, 5, 0] rfl)
      · replace hf := ineg c6 hf
        refine lv_iload_n hx hb dX3_onceMore_42 rfl (lv_at hl 1 rfl) ?_
        refine lv_aload_n hx hb dX3_onceMore_43 rfl (lv_at hl 0 rfl) ?_
        refine G_X3_names C hP q_202 dX3_onceMore_44 ?_
        refine G_X6_sizes C hP q_158 dX3_onceMore_47 ?_
        refine lv_iload hx hb dX3_onceMore_50 (lv_at hl 5 rfl) ?_
        obtain ⟨h8, hf⟩ := chk_some hf
        refine AL_X6_sizes C hP h8 dX3_onceMore_52 ?_
        refine lv_icmp_ge (tgt := 96) hx hb dX3_onceMore_53 (by decide) (fun c9 => ?_) (fun c9 => ?_)
        · replace hf := ipos c9 hf
          obtain ⟨v10, ev10⟩ : ∃ z : Int32, z = x7 + 1 := ⟨_, rfl⟩
          replace hf := bnd_at ev10 hf
          refine lv_iinc (v := v10) (lv' := [(7, .int v10), (0, .ref (a 15)), (1, .int x1), (2, .long x2), (4, .int x4), (5, .long x5)]) hx hb dX3_onceMore_96 hl (k := 5) rfl (by rw [ev10]; rfl) (by decide) rfl (fun ls hl => ?_)
          refine lv_goto (tgt := 18) hx hb dX3_onceMore_99 (by decide) ?_
          exact ih _ _ _ _ _ _ _ _ _ hf hP hD hS (lv_sub hl [1, 2, 3, 4, 5, 0] rfl)
        · replace hf := ineg c9 hf
          refine lv_aload_n hx hb dX3_onceMore_56 rfl (lv_at hl 0 rfl) ?_
          refine G_X3_products C hP q_204 dX3_onceMore_57 ?_
          refine lv_iload hx hb dX3_onceMore_60 (lv_at hl 5 rfl) ?_
          obtain ⟨h11, hf⟩ := chk_some hf
          refine AL_X3_products C hP h11 dX3_onceMore_62 ?_
          refine lv_aload_n hx hb dX3_onceMore_63 rfl (lv_at hl 0 rfl) ?_
          refine G_X3_line C hP q_203 dX3_onceMore_64 ?_
          refine lv_aload_n hx hb dX3_onceMore_67 rfl (lv_at hl 0 rfl) ?_
          refine G_X3_names C hP q_202 dX3_onceMore_68 ?_
          refine lv_iload hx hb dX3_onceMore_71 (lv_at hl 5 rfl) ?_
          refine lv_iload_n hx hb dX3_onceMore_73 rfl (lv_at hl 1 rfl) ?_
          obtain ⟨r13, σ14, h12, hf⟩ := bnd2_some hf
          refine vI [.ref (a 2), .long (σ.2.2.2.1 152 0 x7.toNatClampNeg)] C hP hD hS (c_X6_at h12) mv_X6_at q_699 rv_X6 dX3_onceMore_74 ⟨Nat.le_of_ble_eq_true rfl, Nat.le_of_ble_eq_true rfl⟩ ⟨Nat.zero_le _, Nat.zero_le _⟩ rfl rfl (Nat.le_of_ble_eq_true rfl) hl.1 (fun H locs hP hD hS => ?_)
          refine lv_iload hx hb dX3_onceMore_77 (lv_at hl 3 rfl) ?_
          refine lv_iconst (v := 1) hx hb dX3_onceMore_79 (by decide) ?_
          obtain ⟨r16, σ17, h15, hf⟩ := bnd2_some hf
          refine vI [.long (σ.2.2.2.1 152 0 x7.toNatClampNeg)] C hP hD hS (c_X5_parts h15) mv_X5_parts q_701 rv_X5 dX3_onceMore_80 ⟨Nat.le_of_ble_eq_true rfl, Nat.le_of_ble_eq_true rfl⟩ ⟨Nat.zero_le _, Nat.zero_le _⟩ rfl rfl (Nat.le_of_ble_eq_true rfl) hl.1 (fun H locs hP hD hS => ?_)
          refine lv_i2l (v := (r16 : Int32).toInt64) hx hb dX3_onceMore_83 rfl ?_
          refine lv_lmul hx hb dX3_onceMore_84 ?_
          refine lv_topl (fun v18 ev18 => ?_)
          replace hf := bnd_at ev18 hf
          refine lv_lstore (lv' := [(8, .long v18), (0, .ref (a 15)), (1, .int x1), (2, .long x2), (4, .int x4), (5, .long x5), (7, .int x7)]) hx hb dX3_onceMore_85 hl (by decide) rfl (fun ls hl => ?_)
          refine lv_lload hx hb dX3_onceMore_87 (lv_at hl 5 rfl) ?_
          refine lv_lload hx hb dX3_onceMore_89 (lv_at hl 0 rfl) ?_
          refine va_mmax_long hx hb (C.2.2.1.trans hl.1.symm) hown (hts _ q_739) (hts _ q_740) (hts _ q_74) (hts _ q_741) (Nat.le_of_ble_eq_true rfl) (Nat.le_of_ble_eq_true rfl) (Nat.zero_le _) (Nat.zero_le _) dX3_onceMore_91 ?_
          refine lv_topl (fun v19 ev19 => ?_)
          replace hf := bnd_at ev19 hf
          refine lv_lstore (lv' := [(5, .long v19), (8, .long v18), (0, .ref (a 15)), (1, .int x1), (2, .long x2), (4, .int x4), (7, .int x7)]) hx hb dX3_onceMore_94 hl (by decide) rfl (fun ls hl => ?_)
          obtain ⟨v20, ev20⟩ : ∃ z : Int32, z = x7 + 1 := ⟨_, rfl⟩
          replace hf := bnd_at ev20 hf
          refine lv_iinc (v := v20) (lv' := [(7, .int v20), (5, .long v19), (8, .long v18), (0, .ref (a 15)), (1, .int x1), (2, .long x2), (4, .int x4)]) hx hb dX3_onceMore_96 hl (k := 6) rfl (by rw [ev20]; rfl) (by decide) rfl (fun ls hl => ?_)
          refine lv_goto (tgt := 18) hx hb dX3_onceMore_99 (by decide) ?_
          exact ih _ _ _ _ _ _ _ _ _ hf hP hD hS (lv_sub hl [3, 4, 5, 6, 1, 0] rfl)
set_option maxHeartbeats 4000000 in
set_option maxRecDepth 100000 in
theorem w_X3_onceMore_b5 {p : Program} {l : Launch} {e : Env} {s : State} {m : MethodId} {args : Array Value} {below : List Frame} {meth : Method} {c : Code} {g : va_G} {ts : ClassId × ClassId × ClassId} {A : Nat → Prop} {Q : State → Prop} {a : Nat → Nat} {r : Int64} {σ' : St} (C : FX p s m args meth c RX3 cX3_onceMore 10 g ts A) (hQ : RetL p l e (rk 4 106) s m args below meth c cX3_onceMore g (WC ts a) A r σ' Q) : ∀ (n : Nat) (σ : St) (x1 : Int32) (x2 : Int64) (x4 : Int32) (H : Heap) (locs : List Loc) (ls : Array Slot), f_X3_onceMore_b5 n σ x1 x2 x4 = some (r, σ') → va_P g classes (WC ts a σ) H → va_D A (WC ts a σ) → va_S A s.heap H locs → lv_has ls 10 [(0, .ref (a 15)), (1, .int x1), (2, .long x2), (4, .int x4)] → W p l e (rk 4 106) s m args below meth c H locs 0 0 Q (F0 m 5 ls []) := by
  have hx := C.1
  have hb := C.2.1
  have hown := C.2.2.2.1
  have hts := C.2.2.2.2.1
  intro n
  induction n with
  | zero =>
    intro σ x1 x2 x4 H locs ls hf
    cases hf
  | succ n ih =>
    intro σ x1 x2 x4 H locs ls hf hP hD hS hl
    rw [f_X3_onceMore_b5] at hf
    refine lv_iload hx hb dX3_onceMore_5 (lv_at hl 3 rfl) ?_
    refine lv_bipush (v := 12) hx hb dX3_onceMore_7 (by decide) ?_
    refine lv_icmp_ge (tgt := 113) hx hb dX3_onceMore_9 (by decide) (fun c1 => ?_) (fun c1 => ?_)
    · replace hf := ipos c1 hf
      refine lv_lload_n hx hb dX3_onceMore_113 rfl (lv_at hl 2 rfl) ?_
      exact retL hQ hf dX3_onceMore_114 hP hD hS
    · replace hf := ineg c1 hf
      refine lv_lconst (v := 0) hx hb dX3_onceMore_12 (by decide) ?_
      refine lv_lstore (lv' := [(5, .long (0 : Int64)), (0, .ref (a 15)), (1, .int x1), (2, .long x2), (4, .int x4)]) hx hb dX3_onceMore_13 hl (by decide) rfl (fun ls hl => ?_)
      refine lv_iconst (v := 0) hx hb dX3_onceMore_15 (by decide) ?_
      refine lv_istore (lv' := [(7, .int (0 : Int32)), (5, .long (0 : Int64)), (0, .ref (a 15)), (1, .int x1), (2, .long x2), (4, .int x4)]) hx hb dX3_onceMore_16 hl (by decide) rfl (fun ls hl => ?_)
      exact w_X3_onceMore_b18 C hQ ih 256 _ _ _ _ _ _ _ _ _ hf hP hD hS (lv_sub hl [2, 3, 4, 5, 1, 0] rfl)
set_option maxHeartbeats 4000000 in
set_option maxRecDepth 100000 in
theorem c_X3_onceMore {l : Launch} {g : va_G} {ts : ClassId × ClassId × ClassId} {a : Nat → Nat} {σ : St} {p1 : Int32} {r : Int64} {σ' : St} (hf : f_X3_onceMore σ p1 = some (r, σ')) : ConL l g ts (WC ts a) yX3_onceMore cX3_onceMore 10 (some .long) (rk 4 106) σ [.ref (a 15), .int p1] r σ' := by
  refine ConL_mk rfl rfl (by decide) (Nat.le_of_ble_eq_true rfl) ?_
  intro p e s m below meth c A Q ls C hQ hP hD hS hl
  have C : FX p s m _ meth c RX3 cX3_onceMore 10 g ts A := C
  have hx := C.1
  have hb := C.2.1
  have hown := C.2.2.2.1
  have hts := C.2.2.2.2.1
  have hl : lv_has ls 10 [(0, .ref (a 15)), (1, .int p1)] := hl
  rw [f_X3_onceMore] at hf
  refine lv_lconst (v := 0) hx hb dX3_onceMore_0 (by decide) ?_
  refine lv_lstore_n (lv' := [(2, .long (0 : Int64)), (0, .ref (a 15)), (1, .int p1)]) hx hb dX3_onceMore_1 rfl hl (by decide) rfl (fun ls hl => ?_)
  refine lv_iconst (v := 0) hx hb dX3_onceMore_2 (by decide) ?_
  refine lv_istore (lv' := [(4, .int (0 : Int32)), (2, .long (0 : Int64)), (0, .ref (a 15)), (1, .int p1)]) hx hb dX3_onceMore_3 hl (by decide) rfl (fun ls hl => ?_)
  exact w_X3_onceMore_b5 C hQ 256 _ _ _ _ _ _ _ hf hP hD hS (lv_sub hl [2, 3, 1, 0] rfl)
theorem dX3_placeToAsk_0 : decode cX3_placeToAsk 0 = .ok (.iconst 0, 1) := by decide +kernel
theorem dX3_placeToAsk_1 : decode cX3_placeToAsk 1 = .ok (.istore_n 2, 1) := by decide +kernel
theorem dX3_placeToAsk_2 : decode cX3_placeToAsk 2 = .ok (.ldc2_w 62, 3) := by decide +kernel
theorem dX3_placeToAsk_5 : decode cX3_placeToAsk 5 = .ok (.lstore_n 3, 1) := by decide +kernel
theorem dX3_placeToAsk_6 : decode cX3_placeToAsk 6 = .ok (.iconst 0, 1) := by decide +kernel
theorem dX3_placeToAsk_7 : decode cX3_placeToAsk 7 = .ok (.istore 5, 2) := by decide +kernel
theorem dX3_placeToAsk_9 : decode cX3_placeToAsk 9 = .ok (.iload 5, 2) := by decide +kernel
theorem dX3_placeToAsk_11 : decode cX3_placeToAsk 11 = .ok (.iload_n 1, 1) := by decide +kernel
theorem dX3_placeToAsk_12 : decode cX3_placeToAsk 12 = .ok (.if_icmp .ge 37, 3) := by decide +kernel
theorem dX3_placeToAsk_15 : decode cX3_placeToAsk 15 = .ok (.iload 5, 2) := by decide +kernel
theorem dX3_placeToAsk_17 : decode cX3_placeToAsk 17 = .ok (.bipush 6, 2) := by decide +kernel
theorem dX3_placeToAsk_19 : decode cX3_placeToAsk 19 = .ok (.if_icmp .ge 30, 3) := by decide +kernel
theorem dX3_placeToAsk_22 : decode cX3_placeToAsk 22 = .ok (.aload_n 0, 1) := by decide +kernel
theorem dX3_placeToAsk_23 : decode cX3_placeToAsk 23 = .ok (.iload 5, 2) := by decide +kernel
theorem dX3_placeToAsk_25 : decode cX3_placeToAsk 25 = .ok (.invokevirtual 64, 3) := by decide +kernel
theorem dX3_placeToAsk_28 : decode cX3_placeToAsk 28 = .ok (.lstore 6, 2) := by decide +kernel
theorem dX3_placeToAsk_30 : decode cX3_placeToAsk 30 = .ok (.lload 6, 2) := by decide +kernel
theorem dX3_placeToAsk_32 : decode cX3_placeToAsk 32 = .ok (.lload_n 3, 1) := by decide +kernel
theorem dX3_placeToAsk_33 : decode cX3_placeToAsk 33 = .ok (.lcmp, 1) := by decide +kernel
theorem dX3_placeToAsk_34 : decode cX3_placeToAsk 34 = .ok (.ifCond .le 9, 3) := by decide +kernel
theorem dX3_placeToAsk_37 : decode cX3_placeToAsk 37 = .ok (.iload 5, 2) := by decide +kernel
theorem dX3_placeToAsk_39 : decode cX3_placeToAsk 39 = .ok (.istore_n 2, 1) := by decide +kernel
theorem dX3_placeToAsk_40 : decode cX3_placeToAsk 40 = .ok (.lload 6, 2) := by decide +kernel
theorem dX3_placeToAsk_42 : decode cX3_placeToAsk 42 = .ok (.lstore_n 3, 1) := by decide +kernel
theorem dX3_placeToAsk_43 : decode cX3_placeToAsk 43 = .ok (.iinc 5 1, 3) := by decide +kernel
theorem dX3_placeToAsk_46 : decode cX3_placeToAsk 46 = .ok (.goto (-37), 3) := by decide +kernel
theorem dX3_placeToAsk_49 : decode cX3_placeToAsk 49 = .ok (.iload_n 2, 1) := by decide +kernel
theorem dX3_placeToAsk_50 : decode cX3_placeToAsk 50 = .ok (.ireturn, 1) := by decide +kernel
def f_X3_placeToAsk_b9 : Nat → St → Int32 → Int32 → Int64 → Int32 → Option (Int32 × St)
  | 0, _, _, _, _, _ => none
  | n + 1, σ, x1, x2, x3, x5 => if x1 ≤ x5 then (some (x2, σ)) else (if (6 : Int32) ≤ x5 then (some (x2, σ)) else (bnd2 (f_X3_onceMore σ x5) (fun r4 σ5 => if r4 ≤ x3 then (bnd (x5 + 1) (fun v7 => f_X3_placeToAsk_b9 n σ5 x1 x2 x3 v7)) else (bnd (x5 + 1) (fun v8 => f_X3_placeToAsk_b9 n σ5 x1 x5 r4 v8)))))
def f_X3_placeToAsk (σ : St) (p1 : Int32) : Option (Int32 × St) := f_X3_placeToAsk_b9 256 σ p1 (0 : Int32) (-1 : Int64) (0 : Int32)
set_option maxHeartbeats 4000000 in
set_option maxRecDepth 100000 in
theorem w_X3_placeToAsk_b9 {p : Program} {l : Launch} {e : Env} {s : State} {m : MethodId} {args : Array Value} {below : List Frame} {meth : Method} {c : Code} {g : va_G} {ts : ClassId × ClassId × ClassId} {A : Nat → Prop} {Q : State → Prop} {a : Nat → Nat} {r : Int32} {σ' : St} (C : FX p s m args meth c RX3 cX3_placeToAsk 8 g ts A) (hQ : RetI p l e (rk 5 135) s m args below meth c cX3_placeToAsk g (WC ts a) A r σ' Q) : ∀ (n : Nat) (σ : St) (x1 : Int32) (x2 : Int32) (x3 : Int64) (x5 : Int32) (H : Heap) (locs : List Loc) (ls : Array Slot), f_X3_placeToAsk_b9 n σ x1 x2 x3 x5 = some (r, σ') → va_P g classes (WC ts a σ) H → va_D A (WC ts a σ) → va_S A s.heap H locs → lv_has ls 8 [(0, .ref (a 15)), (1, .int x1), (2, .int x2), (3, .long x3), (5, .int x5)] → W p l e (rk 5 135) s m args below meth c H locs 0 0 Q (F0 m 9 ls []) := by
  have hx := C.1
  have hb := C.2.1
  have hown := C.2.2.2.1
  have hts := C.2.2.2.2.1
  intro n
  induction n with
  | zero =>
    intro σ x1 x2 x3 x5 H locs ls hf
    cases hf
  | succ n ih =>
    intro σ x1 x2 x3 x5 H locs ls hf hP hD hS hl
    rw [f_X3_placeToAsk_b9] at hf
    refine lv_iload hx hb dX3_placeToAsk_9 (lv_at hl 4 rfl) ?_
    refine lv_iload_n hx hb dX3_placeToAsk_11 rfl (lv_at hl 1 rfl) ?_
    refine lv_icmp_ge (tgt := 49) hx hb dX3_placeToAsk_12 (by decide) (fun c1 => ?_) (fun c1 => ?_)
    · replace hf := ipos c1 hf
      refine lv_iload_n hx hb dX3_placeToAsk_49 rfl (lv_at hl 2 rfl) ?_
      exact retI hQ hf dX3_placeToAsk_50 hP hD hS
    · replace hf := ineg c1 hf
      refine lv_iload hx hb dX3_placeToAsk_15 (lv_at hl 4 rfl) ?_
      refine lv_bipush (v := 6) hx hb dX3_placeToAsk_17 (by decide) ?_
      refine lv_icmp_ge (tgt := 49) hx hb dX3_placeToAsk_19 (by decide) (fun c2 => ?_) (fun c2 => ?_)
      · replace hf := ipos c2 hf
        refine lv_iload_n hx hb dX3_placeToAsk_49 rfl (lv_at hl 2 rfl) ?_
        exact retI hQ hf dX3_placeToAsk_50 hP hD hS
      · replace hf := ineg c2 hf
        refine lv_aload_n hx hb dX3_placeToAsk_22 rfl (lv_at hl 0 rfl) ?_
        refine lv_iload hx hb dX3_placeToAsk_23 (lv_at hl 4 rfl) ?_
        obtain ⟨r4, σ5, h3, hf⟩ := bnd2_some hf
        refine vL [] C hP hD hS (c_X3_onceMore h3) mv_X3_onceMore q_735 rv_X3 dX3_placeToAsk_25 ⟨Nat.le_of_ble_eq_true rfl, Nat.le_of_ble_eq_true rfl⟩ ⟨Nat.zero_le _, Nat.zero_le _⟩ rfl rfl (Nat.le_of_ble_eq_true rfl) hl.1 (fun H locs hP hD hS => ?_)
        refine lv_lstore (lv' := [(6, .long r4), (0, .ref (a 15)), (1, .int x1), (2, .int x2), (3, .long x3), (5, .int x5)]) hx hb dX3_placeToAsk_28 hl (by decide) rfl (fun ls hl => ?_)
        refine lv_lload hx hb dX3_placeToAsk_30 (lv_at hl 0 rfl) ?_
        refine lv_lload_n hx hb dX3_placeToAsk_32 rfl (lv_at hl 4 rfl) ?_
        refine lb_le (tgt := 43) hx hb dX3_placeToAsk_33 dX3_placeToAsk_34 (by decide) (fun c6 => ?_) (fun c6 => ?_)
        · replace hf := ipos c6 hf
          obtain ⟨v7, ev7⟩ : ∃ z : Int32, z = x5 + 1 := ⟨_, rfl⟩
          replace hf := bnd_at ev7 hf
          refine lv_iinc (v := v7) (lv' := [(5, .int v7), (6, .long r4), (0, .ref (a 15)), (1, .int x1), (2, .int x2), (3, .long x3)]) hx hb dX3_placeToAsk_43 hl (k := 5) rfl (by rw [ev7]; rfl) (by decide) rfl (fun ls hl => ?_)
          refine lv_goto (tgt := 9) hx hb dX3_placeToAsk_46 (by decide) ?_
          exact ih _ _ _ _ _ _ _ _ hf hP hD hS (lv_sub hl [2, 3, 4, 5, 0] rfl)
        · replace hf := ineg c6 hf
          refine lv_iload hx hb dX3_placeToAsk_37 (lv_at hl 5 rfl) ?_
          refine lv_istore_n (lv' := [(2, .int x5), (6, .long r4), (0, .ref (a 15)), (1, .int x1), (3, .long x3), (5, .int x5)]) hx hb dX3_placeToAsk_39 rfl hl (by decide) rfl (fun ls hl => ?_)
          refine lv_lload hx hb dX3_placeToAsk_40 (lv_at hl 1 rfl) ?_
          refine lv_lstore_n (lv' := [(3, .long r4), (2, .int x5), (6, .long r4), (0, .ref (a 15)), (1, .int x1), (5, .int x5)]) hx hb dX3_placeToAsk_42 rfl hl (by decide) rfl (fun ls hl => ?_)
          obtain ⟨v8, ev8⟩ : ∃ z : Int32, z = x5 + 1 := ⟨_, rfl⟩
          replace hf := bnd_at ev8 hf
          refine lv_iinc (v := v8) (lv' := [(5, .int v8), (3, .long r4), (2, .int x5), (6, .long r4), (0, .ref (a 15)), (1, .int x1)]) hx hb dX3_placeToAsk_43 hl (k := 5) rfl (by rw [ev8]; rfl) (by decide) rfl (fun ls hl => ?_)
          refine lv_goto (tgt := 9) hx hb dX3_placeToAsk_46 (by decide) ?_
          exact ih _ _ _ _ _ _ _ _ hf hP hD hS (lv_sub hl [4, 5, 2, 1, 0] rfl)
set_option maxHeartbeats 4000000 in
set_option maxRecDepth 100000 in
theorem c_X3_placeToAsk {l : Launch} {g : va_G} {ts : ClassId × ClassId × ClassId} {a : Nat → Nat} {σ : St} {p1 : Int32} {r : Int32} {σ' : St} (hf : f_X3_placeToAsk σ p1 = some (r, σ')) : ConI l g ts (WC ts a) yX3_placeToAsk cX3_placeToAsk 8 (some .int) (rk 5 135) σ [.ref (a 15), .int p1] r σ' := by
  refine ConI_mk .int rfl rfl rfl rfl (by decide) (Nat.le_of_ble_eq_true rfl) ?_
  intro p e s m below meth c A Q ls C hQ hP hD hS hl
  have C : FX p s m _ meth c RX3 cX3_placeToAsk 8 g ts A := C
  have hx := C.1
  have hb := C.2.1
  have hown := C.2.2.2.1
  have hts := C.2.2.2.2.1
  have hl : lv_has ls 8 [(0, .ref (a 15)), (1, .int p1)] := hl
  rw [f_X3_placeToAsk] at hf
  refine lv_iconst (v := 0) hx hb dX3_placeToAsk_0 (by decide) ?_
  refine lv_istore_n (lv' := [(2, .int (0 : Int32)), (0, .ref (a 15)), (1, .int p1)]) hx hb dX3_placeToAsk_1 rfl hl (by decide) rfl (fun ls hl => ?_)
  refine lv_ldc2 hx hb hown (hts _ q_734) dX3_placeToAsk_2 ?_
  refine lv_lstore_n (lv' := [(3, .long (-1 : Int64)), (2, .int (0 : Int32)), (0, .ref (a 15)), (1, .int p1)]) hx hb dX3_placeToAsk_5 rfl hl (by decide) rfl (fun ls hl => ?_)
  refine lv_iconst (v := 0) hx hb dX3_placeToAsk_6 (by decide) ?_
  refine lv_istore (lv' := [(5, .int (0 : Int32)), (3, .long (-1 : Int64)), (2, .int (0 : Int32)), (0, .ref (a 15)), (1, .int p1)]) hx hb dX3_placeToAsk_7 hl (by decide) rfl (fun ls hl => ?_)
  exact w_X3_placeToAsk_b9 C hQ 256 _ _ _ _ _ _ _ _ hf hP hD hS (lv_sub hl [3, 4, 2, 1, 0] rfl)
theorem dX3_misfit_0 : decode cX3_misfit 0 = .ok (.aload_n 0, 1) := by decide +kernel
theorem dX3_misfit_1 : decode cX3_misfit 1 = .ok (.getfield 15, 3) := by decide +kernel
theorem dX3_misfit_4 : decode cX3_misfit 4 = .ok (.getfield 33, 3) := by decide +kernel
theorem dX3_misfit_7 : decode cX3_misfit 7 = .ok (.iload_n 2, 1) := by decide +kernel
theorem dX3_misfit_8 : decode cX3_misfit 8 = .ok (.iaload, 1) := by decide +kernel
theorem dX3_misfit_9 : decode cX3_misfit 9 = .ok (.istore_n 3, 1) := by decide +kernel
theorem dX3_misfit_10 : decode cX3_misfit 10 = .ok (.iload_n 3, 1) := by decide +kernel
theorem dX3_misfit_11 : decode cX3_misfit 11 = .ok (.aload_n 1, 1) := by decide +kernel
theorem dX3_misfit_12 : decode cX3_misfit 12 = .ok (.getfield 37, 3) := by decide +kernel
theorem dX3_misfit_15 : decode cX3_misfit 15 = .ok (.invokestatic 78, 3) := by decide +kernel
theorem dX3_misfit_18 : decode cX3_misfit 18 = .ok (.istore 4, 2) := by decide +kernel
theorem dX3_misfit_20 : decode cX3_misfit 20 = .ok (.iconst 0, 1) := by decide +kernel
theorem dX3_misfit_21 : decode cX3_misfit 21 = .ok (.istore 5, 2) := by decide +kernel
theorem dX3_misfit_23 : decode cX3_misfit 23 = .ok (.iload 5, 2) := by decide +kernel
theorem dX3_misfit_25 : decode cX3_misfit 25 = .ok (.iload 4, 2) := by decide +kernel
theorem dX3_misfit_27 : decode cX3_misfit 27 = .ok (.if_icmp .ge 39, 3) := by decide +kernel
theorem dX3_misfit_30 : decode cX3_misfit 30 = .ok (.aload_n 0, 1) := by decide +kernel
theorem dX3_misfit_31 : decode cX3_misfit 31 = .ok (.getfield 19, 3) := by decide +kernel
theorem dX3_misfit_34 : decode cX3_misfit 34 = .ok (.aload_n 0, 1) := by decide +kernel
theorem dX3_misfit_35 : decode cX3_misfit 35 = .ok (.getfield 15, 3) := by decide +kernel
theorem dX3_misfit_38 : decode cX3_misfit 38 = .ok (.iload_n 2, 1) := by decide +kernel
theorem dX3_misfit_39 : decode cX3_misfit 39 = .ok (.iload 5, 2) := by decide +kernel
theorem dX3_misfit_41 : decode cX3_misfit 41 = .ok (.invokevirtual 49, 3) := by decide +kernel
theorem dX3_misfit_44 : decode cX3_misfit 44 = .ok (.aload_n 1, 1) := by decide +kernel
theorem dX3_misfit_45 : decode cX3_misfit 45 = .ok (.iload 5, 2) := by decide +kernel
theorem dX3_misfit_47 : decode cX3_misfit 47 = .ok (.invokevirtual 53, 3) := by decide +kernel
theorem dX3_misfit_50 : decode cX3_misfit 50 = .ok (.iconst 0, 1) := by decide +kernel
theorem dX3_misfit_51 : decode cX3_misfit 51 = .ok (.invokevirtual 56, 3) := by decide +kernel
theorem dX3_misfit_54 : decode cX3_misfit 54 = .ok (.ifCond .ne 6, 3) := by decide +kernel
theorem dX3_misfit_57 : decode cX3_misfit 57 = .ok (.iload 5, 2) := by decide +kernel
theorem dX3_misfit_59 : decode cX3_misfit 59 = .ok (.ireturn, 1) := by decide +kernel
theorem dX3_misfit_60 : decode cX3_misfit 60 = .ok (.iinc 5 1, 3) := by decide +kernel
theorem dX3_misfit_63 : decode cX3_misfit 63 = .ok (.goto (-40), 3) := by decide +kernel
theorem dX3_misfit_66 : decode cX3_misfit 66 = .ok (.iload_n 3, 1) := by decide +kernel
theorem dX3_misfit_67 : decode cX3_misfit 67 = .ok (.aload_n 1, 1) := by decide +kernel
theorem dX3_misfit_68 : decode cX3_misfit 68 = .ok (.getfield 37, 3) := by decide +kernel
theorem dX3_misfit_71 : decode cX3_misfit 71 = .ok (.if_icmp .ne 8, 3) := by decide +kernel
theorem dX3_misfit_74 : decode cX3_misfit 74 = .ok (.bipush (-2), 2) := by decide +kernel
theorem dX3_misfit_76 : decode cX3_misfit 76 = .ok (.goto 5, 3) := by decide +kernel
theorem dX3_misfit_79 : decode cX3_misfit 79 = .ok (.iload 4, 2) := by decide +kernel
theorem dX3_misfit_81 : decode cX3_misfit 81 = .ok (.ireturn, 1) := by decide +kernel
def f_X3_misfit_b23 : Nat → St → Nat → Int32 → Int32 → Int32 → Int32 → Option (Int32 × St)
  | 0, _, _, _, _, _, _ => none
  | n + 1, σ, o0, x2, x3, x4, x5 => if x4 ≤ x5 then (if x3 = σ.1 403 o0 then (some ((-2 : Int32), σ)) else (some (x4, σ))) else (bnd2 (f_X6_at σ x2 x5) (fun r7 σ8 => bnd2 (f_X8_letterAt σ8 o0 x5) (fun r10 σ11 => bnd2 (f_X5_parts σ11 r7 r10 (0 : Int32)) (fun r13 σ14 => if r13 = 0 then (some (x5, σ14)) else (bnd (x5 + 1) (fun v16 => f_X3_misfit_b23 n σ14 o0 x2 x3 x4 v16))))))
def f_X3_misfit (σ : St) (i1 : Nat) (p2 : Int32) : Option (Int32 × St) := chk (p2 < 0 ∨ 10 ≤ p2.toNatClampNeg) (bnd (σ.2.2.1 301 0 p2.toNatClampNeg) (fun v2 => bnd (if σ.1 403 i1 < v2 then σ.1 403 i1 else v2) (fun v3 => f_X3_misfit_b23 256 σ i1 p2 v2 v3 (0 : Int32))))
set_option maxHeartbeats 4000000 in
set_option maxRecDepth 100000 in
theorem w_X3_misfit_b23 {p : Program} {l : Launch} {e : Env} {s : State} {m : MethodId} {args : Array Value} {below : List Frame} {meth : Method} {c : Code} {g : va_G} {ts : ClassId × ClassId × ClassId} {A : Nat → Prop} {Q : State → Prop} {a : Nat → Nat} {r : Int32} {σ' : St} (C : FX p s m args meth c RX3 cX3_misfit 6 g ts A) (hQ : RetI p l e (rk 4 106) s m args below meth c cX3_misfit g (WC ts a) A r σ' Q) : ∀ (n : Nat) (σ : St) (o0 : Nat) (x2 : Int32) (x3 : Int32) (x4 : Int32) (x5 : Int32) (H : Heap) (locs : List Loc) (ls : Array Slot), f_X3_misfit_b23 n σ o0 x2 x3 x4 x5 = some (r, σ') → va_P g classes (WC ts a σ) H → va_D A (WC ts a σ) → va_S A s.heap H locs → o0 < 6 → lv_has ls 6 [(0, .ref (a 15)), (1, .ref (a (36 + 2 * o0))), (2, .int x2), (3, .int x3), (4, .int x4), (5, .int x5)] → W p l e (rk 4 106) s m args below meth c H locs 0 0 Q (F0 m 23 ls []) := by
  have hx := C.1
  have hb := C.2.1
  have hown := C.2.2.2.1
  have hts := C.2.2.2.2.1
  intro n
  induction n with
  | zero =>
    intro σ o0 x2 x3 x4 x5 H locs ls hf
    cases hf
  | succ n ih =>
    intro σ o0 x2 x3 x4 x5 H locs ls hf hP hD hS ho0 hl
    rw [f_X3_misfit_b23] at hf
    refine lv_iload hx hb dX3_misfit_23 (lv_at hl 5 rfl) ?_
    refine lv_iload hx hb dX3_misfit_25 (lv_at hl 4 rfl) ?_
    refine lv_icmp_ge (tgt := 66) hx hb dX3_misfit_27 (by decide) (fun c4 => ?_) (fun c4 => ?_)
    · replace hf := ipos c4 hf
      refine lv_iload_n hx hb dX3_misfit_66 rfl (lv_at hl 3 rfl) ?_
      refine lv_aload_n hx hb dX3_misfit_67 rfl (lv_at hl 1 rfl) ?_
      refine G_X8_length ho0 C hP q_367 dX3_misfit_68 ?_
      refine lv_icmp_ne (tgt := 79) hx hb dX3_misfit_71 (by decide) (fun c5 => ?_) (fun c5 => ?_)
      · replace hf := ineg c5 hf
        refine lv_iload hx hb dX3_misfit_79 (lv_at hl 4 rfl) ?_
        exact retI hQ hf dX3_misfit_81 hP hD hS
      · replace hf := ipos c5 hf
        refine lv_bipush (v := -2) hx hb dX3_misfit_74 (by decide) ?_
        refine lv_goto (tgt := 81) hx hb dX3_misfit_76 (by decide) ?_
        exact retI hQ hf dX3_misfit_81 hP hD hS
    · replace hf := ineg c4 hf
      refine lv_aload_n hx hb dX3_misfit_30 rfl (lv_at hl 0 rfl) ?_
      refine G_X3_line C hP q_203 dX3_misfit_31 ?_
      refine lv_aload_n hx hb dX3_misfit_34 rfl (lv_at hl 0 rfl) ?_
      refine G_X3_names C hP q_202 dX3_misfit_35 ?_
      refine lv_iload_n hx hb dX3_misfit_38 rfl (lv_at hl 2 rfl) ?_
      refine lv_iload hx hb dX3_misfit_39 (lv_at hl 5 rfl) ?_
      obtain ⟨r7, σ8, h6, hf⟩ := bnd2_some hf
      refine vI [.ref (a 2)] C hP hD hS (c_X6_at h6) mv_X6_at q_699 rv_X6 dX3_misfit_41 ⟨Nat.le_of_ble_eq_true rfl, Nat.le_of_ble_eq_true rfl⟩ ⟨Nat.zero_le _, Nat.zero_le _⟩ rfl rfl (Nat.le_of_ble_eq_true rfl) hl.1 (fun H locs hP hD hS => ?_)
      refine lv_aload_n hx hb dX3_misfit_44 rfl (lv_at hl 1 rfl) ?_
      refine lv_iload hx hb dX3_misfit_45 (lv_at hl 5 rfl) ?_
      obtain ⟨r10, σ11, h9, hf⟩ := bnd2_some hf
      refine vI [.int r7, .ref (a 2)] C hP hD hS (c_X8_letterAt ho0 h9) mv_X8_letterAt q_700 (rv_X8 ho0) dX3_misfit_47 ⟨Nat.le_of_ble_eq_true rfl, Nat.le_of_ble_eq_true rfl⟩ ⟨Nat.zero_le _, Nat.zero_le _⟩ rfl rfl (Nat.le_of_ble_eq_true rfl) hl.1 (fun H locs hP hD hS => ?_)
      refine lv_iconst (v := 0) hx hb dX3_misfit_50 (by decide) ?_
      obtain ⟨r13, σ14, h12, hf⟩ := bnd2_some hf
      refine vI [] C hP hD hS (c_X5_parts h12) mv_X5_parts q_701 rv_X5 dX3_misfit_51 ⟨Nat.le_of_ble_eq_true rfl, Nat.le_of_ble_eq_true rfl⟩ ⟨Nat.zero_le _, Nat.zero_le _⟩ rfl rfl (Nat.le_of_ble_eq_true rfl) hl.1 (fun H locs hP hD hS => ?_)
      refine lv_if_ne (tgt := 60) hx hb dX3_misfit_54 (by decide) (fun c15 => ?_) (fun c15 => ?_)
      · replace hf := ineg c15 hf
        obtain ⟨v16, ev16⟩ : ∃ z : Int32, z = x5 + 1 := ⟨_, rfl⟩
        replace hf := bnd_at ev16 hf
        refine lv_iinc (v := v16) (lv' := [(5, .int v16), (0, .ref (a 15)), (1, .ref (a (36 + 2 * o0))), (2, .int x2), (3, .int x3), (4, .int x4)]) hx hb dX3_misfit_60 hl (k := 5) rfl (by rw [ev16]; rfl) (by decide) rfl (fun ls hl => ?_)
        refine lv_goto (tgt := 23) hx hb dX3_misfit_63 (by decide) ?_
        exact ih _ _ _ _ _ _ _ _ _ hf hP hD hS ho0 (lv_sub hl [1, 2, 3, 4, 5, 0] rfl)
      · replace hf := ipos c15 hf
        refine lv_iload hx hb dX3_misfit_57 (lv_at hl 5 rfl) ?_
        exact retI hQ hf dX3_misfit_59 hP hD hS
set_option maxHeartbeats 4000000 in
set_option maxRecDepth 100000 in
theorem c_X3_misfit {l : Launch} {g : va_G} {ts : ClassId × ClassId × ClassId} {a : Nat → Nat} {σ : St} {i1 : Nat} {p2 : Int32} {r : Int32} {σ' : St} (hi1 : i1 < 6) (hf : f_X3_misfit σ i1 p2 = some (r, σ')) : ConI l g ts (WC ts a) yX3_misfit cX3_misfit 6 (some .int) (rk 4 106) σ [.ref (a 15), .ref (a (36 + 2 * i1)), .int p2] r σ' := by
  refine ConI_mk .int rfl rfl rfl rfl (by decide) (Nat.le_of_ble_eq_true rfl) ?_
  intro p e s m below meth c A Q ls C hQ hP hD hS hl
  have C : FX p s m _ meth c RX3 cX3_misfit 6 g ts A := C
  have hx := C.1
  have hb := C.2.1
  have hown := C.2.2.2.1
  have hts := C.2.2.2.2.1
  have hl : lv_has ls 6 [(0, .ref (a 15)), (1, .ref (a (36 + 2 * i1))), (2, .int p2)] := hl
  rw [f_X3_misfit] at hf
  refine lv_aload_n hx hb dX3_misfit_0 rfl (lv_at hl 0 rfl) ?_
  refine G_X3_names C hP q_202 dX3_misfit_1 ?_
  refine G_X6_sizes C hP q_158 dX3_misfit_4 ?_
  refine lv_iload_n hx hb dX3_misfit_7 rfl (lv_at hl 2 rfl) ?_
  obtain ⟨h1, hf⟩ := chk_some hf
  refine AL_X6_sizes C hP h1 dX3_misfit_8 ?_
  refine lv_topi (fun v2 ev2 => ?_)
  replace hf := bnd_at ev2 hf
  refine lv_istore_n (lv' := [(3, .int v2), (0, .ref (a 15)), (1, .ref (a (36 + 2 * i1))), (2, .int p2)]) hx hb dX3_misfit_9 rfl hl (by decide) rfl (fun ls hl => ?_)
  refine lv_iload_n hx hb dX3_misfit_10 rfl (lv_at hl 0 rfl) ?_
  refine lv_aload_n hx hb dX3_misfit_11 rfl (lv_at hl 2 rfl) ?_
  refine G_X8_length hi1 C hP q_367 dX3_misfit_12 ?_
  refine va_mmin hx hb (C.2.2.1.trans hl.1.symm) hown (hts _ q_861) (hts _ q_584) (hts _ q_74) (hts _ q_585) (Nat.le_of_ble_eq_true rfl) (Nat.le_of_ble_eq_true rfl) (Nat.zero_le _) (Nat.zero_le _) dX3_misfit_15 ?_
  refine lv_topi (fun v3 ev3 => ?_)
  replace hf := bnd_at ev3 hf
  refine lv_istore (lv' := [(4, .int v3), (3, .int v2), (0, .ref (a 15)), (1, .ref (a (36 + 2 * i1))), (2, .int p2)]) hx hb dX3_misfit_18 hl (by decide) rfl (fun ls hl => ?_)
  refine lv_iconst (v := 0) hx hb dX3_misfit_20 (by decide) ?_
  refine lv_istore (lv' := [(5, .int (0 : Int32)), (4, .int v3), (3, .int v2), (0, .ref (a 15)), (1, .ref (a (36 + 2 * i1))), (2, .int p2)]) hx hb dX3_misfit_21 hl (by decide) rfl (fun ls hl => ?_)
  exact w_X3_misfit_b23 C hQ 256 _ _ _ _ _ _ _ _ _ hf hP hD hS hi1 (lv_sub hl [3, 4, 5, 2, 1, 0] rfl)
theorem dX3_fitting_0 : decode cX3_fitting 0 = .ok (.iconst 0, 1) := by decide +kernel
theorem dX3_fitting_1 : decode cX3_fitting 1 = .ok (.istore_n 2, 1) := by decide +kernel
theorem dX3_fitting_2 : decode cX3_fitting 2 = .ok (.iconst 0, 1) := by decide +kernel
theorem dX3_fitting_3 : decode cX3_fitting 3 = .ok (.istore_n 3, 1) := by decide +kernel
theorem dX3_fitting_4 : decode cX3_fitting 4 = .ok (.iload_n 3, 1) := by decide +kernel
theorem dX3_fitting_5 : decode cX3_fitting 5 = .ok (.aload_n 0, 1) := by decide +kernel
theorem dX3_fitting_6 : decode cX3_fitting 6 = .ok (.getfield 15, 3) := by decide +kernel
theorem dX3_fitting_9 : decode cX3_fitting 9 = .ok (.getfield 27, 3) := by decide +kernel
theorem dX3_fitting_12 : decode cX3_fitting 12 = .ok (.if_icmp .ge 26, 3) := by decide +kernel
theorem dX3_fitting_15 : decode cX3_fitting 15 = .ok (.aload_n 0, 1) := by decide +kernel
theorem dX3_fitting_16 : decode cX3_fitting 16 = .ok (.aload_n 1, 1) := by decide +kernel
theorem dX3_fitting_17 : decode cX3_fitting 17 = .ok (.iload_n 3, 1) := by decide +kernel
theorem dX3_fitting_18 : decode cX3_fitting 18 = .ok (.invokevirtual 74, 3) := by decide +kernel
theorem dX3_fitting_21 : decode cX3_fitting 21 = .ok (.bipush (-2), 2) := by decide +kernel
theorem dX3_fitting_23 : decode cX3_fitting 23 = .ok (.if_icmp .ne 9, 3) := by decide +kernel
theorem dX3_fitting_26 : decode cX3_fitting 26 = .ok (.iload_n 2, 1) := by decide +kernel
theorem dX3_fitting_27 : decode cX3_fitting 27 = .ok (.iconst 1, 1) := by decide +kernel
theorem dX3_fitting_28 : decode cX3_fitting 28 = .ok (.iload_n 3, 1) := by decide +kernel
theorem dX3_fitting_29 : decode cX3_fitting 29 = .ok (.ishl, 1) := by decide +kernel
theorem dX3_fitting_30 : decode cX3_fitting 30 = .ok (.ior, 1) := by decide +kernel
theorem dX3_fitting_31 : decode cX3_fitting 31 = .ok (.istore_n 2, 1) := by decide +kernel
theorem dX3_fitting_32 : decode cX3_fitting 32 = .ok (.iinc 3 1, 3) := by decide +kernel
theorem dX3_fitting_35 : decode cX3_fitting 35 = .ok (.goto (-31), 3) := by decide +kernel
theorem dX3_fitting_38 : decode cX3_fitting 38 = .ok (.iload_n 2, 1) := by decide +kernel
theorem dX3_fitting_39 : decode cX3_fitting 39 = .ok (.ireturn, 1) := by decide +kernel
def f_X3_fitting_b4 : Nat → St → Nat → Int32 → Int32 → Option (Int32 × St)
  | 0, _, _, _, _ => none
  | n + 1, σ, o0, x2, x3 => if σ.1 303 0 ≤ x3 then (some (x2, σ)) else (bnd2 (f_X3_misfit σ o0 x3) (fun r3 σ4 => if r3 = (-2 : Int32) then (bnd (x2 ||| ((1 : Int32) <<< (x3 &&& 31))) (fun v7 => bnd (x3 + 1) (fun v8 => f_X3_fitting_b4 n σ4 o0 v7 v8))) else (bnd (x3 + 1) (fun v6 => f_X3_fitting_b4 n σ4 o0 x2 v6))))
def f_X3_fitting (σ : St) (i1 : Nat) : Option (Int32 × St) := f_X3_fitting_b4 256 σ i1 (0 : Int32) (0 : Int32)
set_option maxHeartbeats 4000000 in
set_option maxRecDepth 100000 in
theorem w_X3_fitting_b4 {p : Program} {l : Launch} {e : Env} {s : State} {m : MethodId} {args : Array Value} {below : List Frame} {meth : Method} {c : Code} {g : va_G} {ts : ClassId × ClassId × ClassId} {A : Nat → Prop} {Q : State → Prop} {a : Nat → Nat} {r : Int32} {σ' : St} (C : FX p s m args meth c RX3 cX3_fitting 4 g ts A) (hQ : RetI p l e (rk 5 131) s m args below meth c cX3_fitting g (WC ts a) A r σ' Q) : ∀ (n : Nat) (σ : St) (o0 : Nat) (x2 : Int32) (x3 : Int32) (H : Heap) (locs : List Loc) (ls : Array Slot), f_X3_fitting_b4 n σ o0 x2 x3 = some (r, σ') → va_P g classes (WC ts a σ) H → va_D A (WC ts a σ) → va_S A s.heap H locs → o0 < 6 → lv_has ls 4 [(0, .ref (a 15)), (1, .ref (a (36 + 2 * o0))), (2, .int x2), (3, .int x3)] → W p l e (rk 5 131) s m args below meth c H locs 0 0 Q (F0 m 4 ls []) := by
  have hx := C.1
  have hb := C.2.1
  have hown := C.2.2.2.1
  have hts := C.2.2.2.2.1
  intro n
  induction n with
  | zero =>
    intro σ o0 x2 x3 H locs ls hf
    cases hf
  | succ n ih =>
    intro σ o0 x2 x3 H locs ls hf hP hD hS ho0 hl
    rw [f_X3_fitting_b4] at hf
    refine lv_iload_n hx hb dX3_fitting_4 rfl (lv_at hl 3 rfl) ?_
    refine lv_aload_n hx hb dX3_fitting_5 rfl (lv_at hl 0 rfl) ?_
    refine G_X3_names C hP q_202 dX3_fitting_6 ?_
    refine G_X6_number C hP q_165 dX3_fitting_9 ?_
    refine lv_icmp_ge (tgt := 38) hx hb dX3_fitting_12 (by decide) (fun c1 => ?_) (fun c1 => ?_)
    · replace hf := ipos c1 hf
      refine lv_iload_n hx hb dX3_fitting_38 rfl (lv_at hl 2 rfl) ?_
      exact retI hQ hf dX3_fitting_39 hP hD hS
    · replace hf := ineg c1 hf
      refine lv_aload_n hx hb dX3_fitting_15 rfl (lv_at hl 0 rfl) ?_
      refine lv_aload_n hx hb dX3_fitting_16 rfl (lv_at hl 1 rfl) ?_
      refine lv_iload_n hx hb dX3_fitting_17 rfl (lv_at hl 3 rfl) ?_
      obtain ⟨r3, σ4, h2, hf⟩ := bnd2_some hf
      refine vI [] C hP hD hS (c_X3_misfit ho0 h2) mv_X3_misfit q_857 rv_X3 dX3_fitting_18 ⟨Nat.le_of_ble_eq_true rfl, Nat.le_of_ble_eq_true rfl⟩ ⟨Nat.zero_le _, Nat.zero_le _⟩ rfl rfl (Nat.le_of_ble_eq_true rfl) hl.1 (fun H locs hP hD hS => ?_)
      refine lv_bipush (v := -2) hx hb dX3_fitting_21 (by decide) ?_
      refine lv_icmp_ne (tgt := 32) hx hb dX3_fitting_23 (by decide) (fun c5 => ?_) (fun c5 => ?_)
      · replace hf := ineg c5 hf
        obtain ⟨v6, ev6⟩ : ∃ z : Int32, z = x3 + 1 := ⟨_, rfl⟩
        replace hf := bnd_at ev6 hf
        refine lv_iinc (v := v6) (lv' := [(3, .int v6), (0, .ref (a 15)), (1, .ref (a (36 + 2 * o0))), (2, .int x2)]) hx hb dX3_fitting_32 hl (k := 3) rfl (by rw [ev6]; rfl) (by decide) rfl (fun ls hl => ?_)
        refine lv_goto (tgt := 4) hx hb dX3_fitting_35 (by decide) ?_
        exact ih _ _ _ _ _ _ _ hf hP hD hS ho0 (lv_sub hl [1, 2, 3, 0] rfl)
      · replace hf := ipos c5 hf
        refine lv_iload_n hx hb dX3_fitting_26 rfl (lv_at hl 2 rfl) ?_
        refine lv_iconst (v := 1) hx hb dX3_fitting_27 (by decide) ?_
        refine lv_iload_n hx hb dX3_fitting_28 rfl (lv_at hl 3 rfl) ?_
        refine lv_ishl hx hb dX3_fitting_29 ?_
        refine lv_ior hx hb dX3_fitting_30 ?_
        refine lv_topi (fun v7 ev7 => ?_)
        replace hf := bnd_at ev7 hf
        refine lv_istore_n (lv' := [(2, .int v7), (0, .ref (a 15)), (1, .ref (a (36 + 2 * o0))), (3, .int x3)]) hx hb dX3_fitting_31 rfl hl (by decide) rfl (fun ls hl => ?_)
        obtain ⟨v8, ev8⟩ : ∃ z : Int32, z = x3 + 1 := ⟨_, rfl⟩
        replace hf := bnd_at ev8 hf
        refine lv_iinc (v := v8) (lv' := [(3, .int v8), (2, .int v7), (0, .ref (a 15)), (1, .ref (a (36 + 2 * o0)))]) hx hb dX3_fitting_32 hl (k := 3) rfl (by rw [ev8]; rfl) (by decide) rfl (fun ls hl => ?_)
        refine lv_goto (tgt := 4) hx hb dX3_fitting_35 (by decide) ?_
        exact ih _ _ _ _ _ _ _ hf hP hD hS ho0 (lv_sub hl [2, 3, 1, 0] rfl)
set_option maxHeartbeats 4000000 in
set_option maxRecDepth 100000 in
theorem c_X3_fitting {l : Launch} {g : va_G} {ts : ClassId × ClassId × ClassId} {a : Nat → Nat} {σ : St} {i1 : Nat} {r : Int32} {σ' : St} (hi1 : i1 < 6) (hf : f_X3_fitting σ i1 = some (r, σ')) : ConI l g ts (WC ts a) yX3_fitting cX3_fitting 4 (some .int) (rk 5 131) σ [.ref (a 15), .ref (a (36 + 2 * i1))] r σ' := by
  refine ConI_mk .int rfl rfl rfl rfl (by decide) (Nat.le_of_ble_eq_true rfl) ?_
  intro p e s m below meth c A Q ls C hQ hP hD hS hl
  have C : FX p s m _ meth c RX3 cX3_fitting 4 g ts A := C
  have hx := C.1
  have hb := C.2.1
  have hown := C.2.2.2.1
  have hts := C.2.2.2.2.1
  have hl : lv_has ls 4 [(0, .ref (a 15)), (1, .ref (a (36 + 2 * i1)))] := hl
  rw [f_X3_fitting] at hf
  refine lv_iconst (v := 0) hx hb dX3_fitting_0 (by decide) ?_
  refine lv_istore_n (lv' := [(2, .int (0 : Int32)), (0, .ref (a 15)), (1, .ref (a (36 + 2 * i1)))]) hx hb dX3_fitting_1 rfl hl (by decide) rfl (fun ls hl => ?_)
  refine lv_iconst (v := 0) hx hb dX3_fitting_2 (by decide) ?_
  refine lv_istore_n (lv' := [(3, .int (0 : Int32)), (2, .int (0 : Int32)), (0, .ref (a 15)), (1, .ref (a (36 + 2 * i1)))]) hx hb dX3_fitting_3 rfl hl (by decide) rfl (fun ls hl => ?_)
  exact w_X3_fitting_b4 C hQ 256 _ _ _ _ _ _ _ hf hP hD hS hi1 (lv_sub hl [2, 3, 1, 0] rfl)
