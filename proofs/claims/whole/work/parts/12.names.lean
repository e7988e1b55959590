theorem mv_X6_at : MV yX6_at cX6_at 3 (some .int) 2 := ⟨q_505, q_506, q_62, q_507, by decide +kernel, by decide +kernel, by decide +kernel⟩
theorem mv_X6_sumOf : MV yX6_sumOf cX6_sumOf 4 (some .int) 1 := ⟨q_695, q_696, q_62, q_697, by decide +kernel, by decide +kernel, by decide +kernel⟩
theorem mv_X6_has : MV yX6_has cX6_has 2 (some .boolean) 1 := ⟨q_466, q_467, q_62, q_468, by decide +kernel, by decide +kernel, by decide +kernel⟩
theorem mv_X6_hasSet : MV yX6_hasSet cX6_hasSet 3 (some .boolean) 2 := ⟨q_749, q_750, q_62, q_751, by decide +kernel, by decide +kernel, by decide +kernel⟩
theorem mv_X6_areEven : MV yX6_areEven cX6_areEven 3 (some .boolean) 2 := ⟨q_798, q_799, q_62, q_800, by decide +kernel, by decide +kernel, by decide +kernel⟩
theorem mv_X6_enter : MV yX6_enter cX6_enter 6 (some .int) 3 := ⟨q_453, q_454, q_62, q_455, by decide +kernel, by decide +kernel, by decide +kernel⟩
theorem mv_X6_unlike : MV yX6_unlike cX6_unlike 5 (some .int) 2 := ⟨q_867, q_868, q_62, q_869, by decide +kernel, by decide +kernel, by decide +kernel⟩
theorem dX6_at_0 : decode cX6_at 0 = .ok (.aload_n 0, 1) := by decide +kernel
theorem dX6_at_1 : decode cX6_at 1 = .ok (.getfield 9, 3) := by decide +kernel
theorem dX6_at_4 : decode cX6_at 4 = .ok (.iload_n 1, 1) := by decide +kernel
theorem dX6_at_5 : decode cX6_at 5 = .ok (.bipush 6, 2) := by decide +kernel
theorem dX6_at_7 : decode cX6_at 7 = .ok (.imul, 1) := by decide +kernel
theorem dX6_at_8 : decode cX6_at 8 = .ok (.iload_n 2, 1) := by decide +kernel
theorem dX6_at_9 : decode cX6_at 9 = .ok (.iadd, 1) := by decide +kernel
theorem dX6_at_10 : decode cX6_at 10 = .ok (.iaload, 1) := by decide +kernel
theorem dX6_at_11 : decode cX6_at 11 = .ok (.ireturn, 1) := by decide +kernel
def f_X6_at (σ : St) (p1 : Int32) (p2 : Int32) : Option (Int32 × St) := chk ((p1 * (6 : Int32)) + p2 < 0 ∨ 60 ≤ ((p1 * (6 : Int32)) + p2).toNatClampNeg) (some (σ.2.2.1 300 0 ((p1 * (6 : Int32)) + p2).toNatClampNeg, σ))
set_option maxHeartbeats 4000000 in
set_option maxRecDepth 100000 in
theorem c_X6_at {l : Launch} {g : va_G} {ts : ClassId × ClassId × ClassId} {a : Nat → Nat} {σ : St} {p1 : Int32} {p2 : Int32} {r : Int32} {σ' : St} (hf : f_X6_at σ p1 p2 = some (r, σ')) : ConI l g ts (WC ts a) yX6_at cX6_at 3 (some .int) (rk 0 0) σ [.ref (a 8), .int p1, .int p2] r σ' := by
  refine ConI_mk .int rfl rfl rfl rfl (by decide) (Nat.le_of_ble_eq_true rfl) ?_
  intro p e s m below meth c A Q ls C hQ hP hD hS hl
  have C : FX p s m _ meth c RX6 cX6_at 3 g ts A := C
  have hx := C.1
  have hb := C.2.1
  have hown := C.2.2.2.1
  have hts := C.2.2.2.2.1
  have hl : lv_has ls 3 [(0, .ref (a 8)), (1, .int p1), (2, .int p2)] := hl
  rw [f_X6_at] at hf
  refine lv_aload_n hx hb dX6_at_0 rfl (lv_at hl 0 rfl) ?_
  refine G_X6_letters C hP q_155 dX6_at_1 ?_
  refine lv_iload_n hx hb dX6_at_4 rfl (lv_at hl 1 rfl) ?_
  refine lv_bipush (v := 6) hx hb dX6_at_5 (by decide) ?_
  refine lv_imul hx hb dX6_at_7 ?_
  refine lv_iload_n hx hb dX6_at_8 rfl (lv_at hl 2 rfl) ?_
  refine lv_iadd hx hb dX6_at_9 ?_
  obtain ⟨h1, hf⟩ := chk_some hf
  refine AL_X6_letters C hP h1 dX6_at_10 ?_
  exact retI hQ hf dX6_at_11 hP hD hS
theorem dX6_sumOf_0 : decode cX6_sumOf 0 = .ok (.iconst 0, 1) := by decide +kernel
theorem dX6_sumOf_1 : decode cX6_sumOf 1 = .ok (.istore_n 2, 1) := by decide +kernel
theorem dX6_sumOf_2 : decode cX6_sumOf 2 = .ok (.iconst 0, 1) := by decide +kernel
theorem dX6_sumOf_3 : decode cX6_sumOf 3 = .ok (.istore_n 3, 1) := by decide +kernel
theorem dX6_sumOf_4 : decode cX6_sumOf 4 = .ok (.iload_n 3, 1) := by decide +kernel
theorem dX6_sumOf_5 : decode cX6_sumOf 5 = .ok (.aload_n 0, 1) := by decide +kernel
theorem dX6_sumOf_6 : decode cX6_sumOf 6 = .ok (.getfield 15, 3) := by decide +kernel
theorem dX6_sumOf_9 : decode cX6_sumOf 9 = .ok (.iload_n 1, 1) := by decide +kernel
theorem dX6_sumOf_10 : decode cX6_sumOf 10 = .ok (.iaload, 1) := by decide +kernel
theorem dX6_sumOf_11 : decode cX6_sumOf 11 = .ok (.if_icmp .ge 18, 3) := by decide +kernel
theorem dX6_sumOf_14 : decode cX6_sumOf 14 = .ok (.iload_n 2, 1) := by decide +kernel
theorem dX6_sumOf_15 : decode cX6_sumOf 15 = .ok (.aload_n 0, 1) := by decide +kernel
theorem dX6_sumOf_16 : decode cX6_sumOf 16 = .ok (.iload_n 1, 1) := by decide +kernel
theorem dX6_sumOf_17 : decode cX6_sumOf 17 = .ok (.iload_n 3, 1) := by decide +kernel
theorem dX6_sumOf_18 : decode cX6_sumOf 18 = .ok (.invokevirtual 35, 3) := by decide +kernel
theorem dX6_sumOf_21 : decode cX6_sumOf 21 = .ok (.iadd, 1) := by decide +kernel
theorem dX6_sumOf_22 : decode cX6_sumOf 22 = .ok (.istore_n 2, 1) := by decide +kernel
theorem dX6_sumOf_23 : decode cX6_sumOf 23 = .ok (.iinc 3 1, 3) := by decide +kernel
theorem dX6_sumOf_26 : decode cX6_sumOf 26 = .ok (.goto (-22), 3) := by decide +kernel
theorem dX6_sumOf_29 : decode cX6_sumOf 29 = .ok (.iload_n 2, 1) := by decide +kernel
theorem dX6_sumOf_30 : decode cX6_sumOf 30 = .ok (.bipush 12, 2) := by decide +kernel
theorem dX6_sumOf_32 : decode cX6_sumOf 32 = .ok (.irem, 1) := by decide +kernel
theorem dX6_sumOf_33 : decode cX6_sumOf 33 = .ok (.ireturn, 1) := by decide +kernel
def f_X6_sumOf_b4 : Nat → St → Int32 → Int32 → Int32 → Option (Int32 × St)
  | 0, _, _, _, _ => none
  | n + 1, σ, x1, x2, x3 => chk (x1 < 0 ∨ 10 ≤ x1.toNatClampNeg) (if σ.2.2.1 301 0 x1.toNatClampNeg ≤ x3 then (some (x2 - x2 / (12 : Int32) * (12 : Int32), σ)) else (bnd2 (f_X6_at σ x1 x3) (fun r4 σ5 => bnd (x2 + r4) (fun v6 => bnd (x3 + 1) (fun v7 => f_X6_sumOf_b4 n σ5 x1 v6 v7)))))
def f_X6_sumOf (σ : St) (p1 : Int32) : Option (Int32 × St) := f_X6_sumOf_b4 256 σ p1 (0 : Int32) (0 : Int32)
set_option maxHeartbeats 4000000 in
set_option maxRecDepth 100000 in
theorem w_X6_sumOf_b4 {p : Program} {l : Launch} {e : Env} {s : State} {m : MethodId} {args : Array Value} {below : List Frame} {meth : Method} {c : Code} {g : va_G} {ts : ClassId × ClassId × ClassId} {A : Nat → Prop} {Q : State → Prop} {a : Nat → Nat} {r : Int32} {σ' : St} (C : FX p s m args meth c RX6 cX6_sumOf 4 g ts A) (hQ : RetI p l e (rk 1 22) s m args below meth c cX6_sumOf g (WC ts a) A r σ' Q) : ∀ (n : Nat) (σ : St) (x1 : Int32) (x2 : Int32) (x3 : Int32) (H : Heap) (locs : List Loc) (ls : Array Slot), f_X6_sumOf_b4 n σ x1 x2 x3 = some (r, σ') → va_P g classes (WC ts a σ) H → va_D A (WC ts a σ) → va_S A s.heap H locs → lv_has ls 4 [(0, .ref (a 8)), (1, .int x1), (2, .int x2), (3, .int x3)] → W p l e (rk 1 22) s m args below meth c H locs 0 0 Q (F0 m 4 ls []) := by
  have hx := C.1
  have hb := C.2.1
  have hown := C.2.2.2.1
  have hts := C.2.2.2.2.1
  intro n
  induction n with
  | zero =>
    intro σ x1 x2 x3 H locs ls hf
    cases hf
  | succ n ih =>
    intro σ x1 x2 x3 H locs ls hf hP hD hS hl
    rw [f_X6_sumOf_b4] at hf
    refine lv_iload_n hx hb dX6_sumOf_4 rfl (lv_at hl 3 rfl) ?_
    refine lv_aload_n hx hb dX6_sumOf_5 rfl (lv_at hl 0 rfl) ?_
    refine G_X6_sizes C hP q_156 dX6_sumOf_6 ?_
    refine lv_iload_n hx hb dX6_sumOf_9 rfl (lv_at hl 1 rfl) ?_
    obtain ⟨h1, hf⟩ := chk_some hf
    refine AL_X6_sizes C hP h1 dX6_sumOf_10 ?_
    refine lv_icmp_ge (tgt := 29) hx hb dX6_sumOf_11 (by decide) (fun c2 => ?_) (fun c2 => ?_)
    · replace hf := ipos c2 hf
      refine lv_iload_n hx hb dX6_sumOf_29 rfl (lv_at hl 2 rfl) ?_
      refine lv_bipush (v := 12) hx hb dX6_sumOf_30 (by decide) ?_
      refine lv_irem hx hb dX6_sumOf_32 (by decide) ?_
      exact retI hQ hf dX6_sumOf_33 hP hD hS
    · replace hf := ineg c2 hf
      refine lv_iload_n hx hb dX6_sumOf_14 rfl (lv_at hl 2 rfl) ?_
      refine lv_aload_n hx hb dX6_sumOf_15 rfl (lv_at hl 0 rfl) ?_
      refine lv_iload_n hx hb dX6_sumOf_16 rfl (lv_at hl 1 rfl) ?_
      refine lv_iload_n hx hb dX6_sumOf_17 rfl (lv_at hl 3 rfl) ?_
      obtain ⟨r4, σ5, h3, hf⟩ := bnd2_some hf
      refine vI [.int x2] C hP hD hS (c_X6_at h3) mv_X6_at q_698 rv_X6 dX6_sumOf_18 ⟨Nat.le_of_ble_eq_true rfl, Nat.le_of_ble_eq_true rfl⟩ ⟨Nat.zero_le _, Nat.zero_le _⟩ rfl rfl (Nat.le_of_ble_eq_true rfl) hl.1 (fun H locs hP hD hS => ?_)
      refine lv_iadd hx hb dX6_sumOf_21 ?_
      refine lv_topi (fun v6 ev6 => ?_)
      replace hf := bnd_at ev6 hf
      refine lv_istore_n (lv' := [(2, .int v6), (0, .ref (a 8)), (1, .int x1), (3, .int x3)]) hx hb dX6_sumOf_22 rfl hl (by decide) rfl (fun ls hl => ?_)
      obtain ⟨v7, ev7⟩ : ∃ z : Int32, z = x3 + 1 := ⟨_, rfl⟩
      replace hf := bnd_at ev7 hf
      refine lv_iinc (v := v7) (lv' := [(3, .int v7), (2, .int v6), (0, .ref (a 8)), (1, .int x1)]) hx hb dX6_sumOf_23 hl (k := 3) rfl (by rw [ev7]; rfl) (by decide) rfl (fun ls hl => ?_)
      refine lv_goto (tgt := 4) hx hb dX6_sumOf_26 (by decide) ?_
      exact ih _ _ _ _ _ _ _ hf hP hD hS (lv_sub hl [2, 3, 1, 0] rfl)
set_option maxHeartbeats 4000000 in
set_option maxRecDepth 100000 in
theorem c_X6_sumOf {l : Launch} {g : va_G} {ts : ClassId × ClassId × ClassId} {a : Nat → Nat} {σ : St} {p1 : Int32} {r : Int32} {σ' : St} (hf : f_X6_sumOf σ p1 = some (r, σ')) : ConI l g ts (WC ts a) yX6_sumOf cX6_sumOf 4 (some .int) (rk 1 22) σ [.ref (a 8), .int p1] r σ' := by
  refine ConI_mk .int rfl rfl rfl rfl (by decide) (Nat.le_of_ble_eq_true rfl) ?_
  intro p e s m below meth c A Q ls C hQ hP hD hS hl
  have C : FX p s m _ meth c RX6 cX6_sumOf 4 g ts A := C
  have hx := C.1
  have hb := C.2.1
  have hown := C.2.2.2.1
  have hts := C.2.2.2.2.1
  have hl : lv_has ls 4 [(0, .ref (a 8)), (1, .int p1)] := hl
  rw [f_X6_sumOf] at hf
  refine lv_iconst (v := 0) hx hb dX6_sumOf_0 (by decide) ?_
  refine lv_istore_n (lv' := [(2, .int (0 : Int32)), (0, .ref (a 8)), (1, .int p1)]) hx hb dX6_sumOf_1 rfl hl (by decide) rfl (fun ls hl => ?_)
  refine lv_iconst (v := 0) hx hb dX6_sumOf_2 (by decide) ?_
  refine lv_istore_n (lv' := [(3, .int (0 : Int32)), (2, .int (0 : Int32)), (0, .ref (a 8)), (1, .int p1)]) hx hb dX6_sumOf_3 rfl hl (by decide) rfl (fun ls hl => ?_)
  exact w_X6_sumOf_b4 C hQ 256 _ _ _ _ _ _ _ hf hP hD hS (lv_sub hl [2, 3, 1, 0] rfl)
theorem dX6_has_0 : decode cX6_has 0 = .ok (.iload_n 1, 1) := by decide +kernel
theorem dX6_has_1 : decode cX6_has 1 = .ok (.ifCond .lt 15, 3) := by decide +kernel
theorem dX6_has_4 : decode cX6_has 4 = .ok (.iload_n 1, 1) := by decide +kernel
theorem dX6_has_5 : decode cX6_has 5 = .ok (.aload_n 0, 1) := by decide +kernel
theorem dX6_has_6 : decode cX6_has 6 = .ok (.getfield 21, 3) := by decide +kernel
theorem dX6_has_9 : decode cX6_has 9 = .ok (.if_icmp .ge 7, 3) := by decide +kernel
theorem dX6_has_12 : decode cX6_has 12 = .ok (.iconst 1, 1) := by decide +kernel
theorem dX6_has_13 : decode cX6_has 13 = .ok (.goto 4, 3) := by decide +kernel
theorem dX6_has_16 : decode cX6_has 16 = .ok (.iconst 0, 1) := by decide +kernel
theorem dX6_has_17 : decode cX6_has 17 = .ok (.ireturn, 1) := by decide +kernel
def f_X6_has0 (σ : St) (p1 : Int32) : Option (Int32 × St) := if p1 < 0 then (some ((0 : Int32), σ)) else (if σ.1 303 0 ≤ p1 then (some ((0 : Int32), σ)) else (some ((1 : Int32), σ)))
def f_X6_has (σ : St) (p1 : Int32) : Option (Int32 × St) := chkB (f_X6_has0 σ p1)
set_option maxHeartbeats 4000000 in
set_option maxRecDepth 100000 in
theorem c_X6_has {l : Launch} {g : va_G} {ts : ClassId × ClassId × ClassId} {a : Nat → Nat} {σ : St} {p1 : Int32} {r : Int32} {σ' : St} (hf : f_X6_has σ p1 = some (r, σ')) : ConI l g ts (WC ts a) yX6_has cX6_has 2 (some .boolean) (rk 0 0) σ [.ref (a 8), .int p1] r σ' := by
  rw [f_X6_has] at hf
  obtain ⟨hf, hn⟩ := chkB_some hf
  refine ConI_mk .boolean rfl hn rfl rfl (by decide) (Nat.le_of_ble_eq_true rfl) ?_
  intro p e s m below meth c A Q ls C hQ hP hD hS hl
  have C : FX p s m _ meth c RX6 cX6_has 2 g ts A := C
  have hx := C.1
  have hb := C.2.1
  have hown := C.2.2.2.1
  have hts := C.2.2.2.2.1
  have hl : lv_has ls 2 [(0, .ref (a 8)), (1, .int p1)] := hl
  rw [f_X6_has0] at hf
  refine lv_iload_n hx hb dX6_has_0 rfl (lv_at hl 1 rfl) ?_
  refine lv_if_lt (tgt := 16) hx hb dX6_has_1 (by decide) (fun c1 => ?_) (fun c1 => ?_)
  · replace hf := ipos c1 hf
    refine lv_iconst (v := 0) hx hb dX6_has_16 (by decide) ?_
    exact retI hQ hf dX6_has_17 hP hD hS
  · replace hf := ineg c1 hf
    refine lv_iload_n hx hb dX6_has_4 rfl (lv_at hl 1 rfl) ?_
    refine lv_aload_n hx hb dX6_has_5 rfl (lv_at hl 0 rfl) ?_
    refine G_X6_number C hP q_164 dX6_has_6 ?_
    refine lv_icmp_ge (tgt := 16) hx hb dX6_has_9 (by decide) (fun c2 => ?_) (fun c2 => ?_)
    · replace hf := ipos c2 hf
      refine lv_iconst (v := 0) hx hb dX6_has_16 (by decide) ?_
      exact retI hQ hf dX6_has_17 hP hD hS
    · replace hf := ineg c2 hf
      refine lv_iconst (v := 1) hx hb dX6_has_12 (by decide) ?_
      refine lv_goto (tgt := 17) hx hb dX6_has_13 (by decide) ?_
      exact retI hQ hf dX6_has_17 hP hD hS
theorem dX6_hasSet_0 : decode cX6_hasSet 0 = .ok (.aload_n 0, 1) := by decide +kernel
theorem dX6_hasSet_1 : decode cX6_hasSet 1 = .ok (.iload_n 1, 1) := by decide +kernel
theorem dX6_hasSet_2 : decode cX6_hasSet 2 = .ok (.invokevirtual 25, 3) := by decide +kernel
theorem dX6_hasSet_5 : decode cX6_hasSet 5 = .ok (.ifCond .eq 23, 3) := by decide +kernel
theorem dX6_hasSet_8 : decode cX6_hasSet 8 = .ok (.iload_n 2, 1) := by decide +kernel
theorem dX6_hasSet_9 : decode cX6_hasSet 9 = .ok (.ifCond .lt 19, 3) := by decide +kernel
theorem dX6_hasSet_12 : decode cX6_hasSet 12 = .ok (.iload_n 2, 1) := by decide +kernel
theorem dX6_hasSet_13 : decode cX6_hasSet 13 = .ok (.iconst 1, 1) := by decide +kernel
theorem dX6_hasSet_14 : decode cX6_hasSet 14 = .ok (.aload_n 0, 1) := by decide +kernel
theorem dX6_hasSet_15 : decode cX6_hasSet 15 = .ok (.getfield 15, 3) := by decide +kernel
theorem dX6_hasSet_18 : decode cX6_hasSet 18 = .ok (.iload_n 1, 1) := by decide +kernel
theorem dX6_hasSet_19 : decode cX6_hasSet 19 = .ok (.iaload, 1) := by decide +kernel
theorem dX6_hasSet_20 : decode cX6_hasSet 20 = .ok (.ishl, 1) := by decide +kernel
theorem dX6_hasSet_21 : decode cX6_hasSet 21 = .ok (.if_icmp .ge 7, 3) := by decide +kernel
theorem dX6_hasSet_24 : decode cX6_hasSet 24 = .ok (.iconst 1, 1) := by decide +kernel
theorem dX6_hasSet_25 : decode cX6_hasSet 25 = .ok (.goto 4, 3) := by decide +kernel
theorem dX6_hasSet_28 : decode cX6_hasSet 28 = .ok (.iconst 0, 1) := by decide +kernel
theorem dX6_hasSet_29 : decode cX6_hasSet 29 = .ok (.ireturn, 1) := by decide +kernel
def f_X6_hasSet0 (σ : St) (p1 : Int32) (p2 : Int32) : Option (Int32 × St) := bnd2 (f_X6_has σ p1) (fun r2 σ3 => if r2 = 0 then (some ((0 : Int32), σ3)) else (if p2 < 0 then (some ((0 : Int32), σ3)) else (chk (p1 < 0 ∨ 10 ≤ p1.toNatClampNeg) (if (1 : Int32) <<< ((σ3.2.2.1 301 0 p1.toNatClampNeg) &&& 31) ≤ p2 then (some ((0 : Int32), σ3)) else (some ((1 : Int32), σ3))))))
def f_X6_hasSet (σ : St) (p1 : Int32) (p2 : Int32) : Option (Int32 × St) := chkB (f_X6_hasSet0 σ p1 p2)
set_option maxHeartbeats 4000000 in
set_option maxRecDepth 100000 in
theorem c_X6_hasSet {l : Launch} {g : va_G} {ts : ClassId × ClassId × ClassId} {a : Nat → Nat} {σ : St} {p1 : Int32} {p2 : Int32} {r : Int32} {σ' : St} (hf : f_X6_hasSet σ p1 p2 = some (r, σ')) : ConI l g ts (WC ts a) yX6_hasSet cX6_hasSet 3 (some .boolean) (rk 1 21) σ [.ref (a 8), .int p1, .int p2] r σ' := by
  rw [f_X6_hasSet] at hf
  obtain ⟨hf, hn⟩ := chkB_some hf
  refine ConI_mk .boolean rfl hn rfl rfl (by decide) (Nat.le_of_ble_eq_true rfl) ?_
  intro p e s m below meth c A Q ls C hQ hP hD hS hl
  have C : FX p s m _ meth c RX6 cX6_hasSet 3 g ts A := C
  have hx := C.1
  have hb := C.2.1
  have hown := C.2.2.2.1
  have hts := C.2.2.2.2.1
  have hl : lv_has ls 3 [(0, .ref (a 8)), (1, .int p1), (2, .int p2)] := hl
  rw [f_X6_hasSet0] at hf
  refine lv_aload_n hx hb dX6_hasSet_0 rfl (lv_at hl 0 rfl) ?_
  refine lv_iload_n hx hb dX6_hasSet_1 rfl (lv_at hl 1 rfl) ?_
  obtain ⟨r2, σ3, h1, hf⟩ := bnd2_some hf
  refine vI [] C hP hD hS (c_X6_has h1) mv_X6_has q_752 rv_X6 dX6_hasSet_2 ⟨Nat.le_of_ble_eq_true rfl, Nat.le_of_ble_eq_true rfl⟩ ⟨Nat.zero_le _, Nat.zero_le _⟩ rfl rfl (Nat.le_of_ble_eq_true rfl) hl.1 (fun H locs hP hD hS => ?_)
  refine lv_if_eq (tgt := 28) hx hb dX6_hasSet_5 (by decide) (fun c4 => ?_) (fun c4 => ?_)
  · replace hf := ipos c4 hf
    refine lv_iconst (v := 0) hx hb dX6_hasSet_28 (by decide) ?_
    exact retI hQ hf dX6_hasSet_29 hP hD hS
  · replace hf := ineg c4 hf
    refine lv_iload_n hx hb dX6_hasSet_8 rfl (lv_at hl 2 rfl) ?_
    refine lv_if_lt (tgt := 28) hx hb dX6_hasSet_9 (by decide) (fun c5 => ?_) (fun c5 => ?_)
    · replace hf := ipos c5 hf
      refine lv_iconst (v := 0) hx hb dX6_hasSet_28 (by decide) ?_
      exact retI hQ hf dX6_hasSet_29 hP hD hS
    · replace hf := ineg c5 hf
      refine lv_iload_n hx hb dX6_hasSet_12 rfl (lv_at hl 2 rfl) ?_
      refine lv_iconst (v := 1) hx hb dX6_hasSet_13 (by decide) ?_
      refine lv_aload_n hx hb dX6_hasSet_14 rfl (lv_at hl 0 rfl) ?_
      refine G_X6_sizes C hP q_156 dX6_hasSet_15 ?_
      refine lv_iload_n hx hb dX6_hasSet_18 rfl (lv_at hl 1 rfl) ?_
      obtain ⟨h6, hf⟩ := chk_some hf
      refine AL_X6_sizes C hP h6 dX6_hasSet_19 ?_
      refine lv_ishl hx hb dX6_hasSet_20 ?_
      refine lv_icmp_ge (tgt := 28) hx hb dX6_hasSet_21 (by decide) (fun c7 => ?_) (fun c7 => ?_)
      · replace hf := ipos c7 hf
        refine lv_iconst (v := 0) hx hb dX6_hasSet_28 (by decide) ?_
        exact retI hQ hf dX6_hasSet_29 hP hD hS
      · replace hf := ineg c7 hf
        refine lv_iconst (v := 1) hx hb dX6_hasSet_24 (by decide) ?_
        refine lv_goto (tgt := 29) hx hb dX6_hasSet_25 (by decide) ?_
        exact retI hQ hf dX6_hasSet_29 hP hD hS
theorem dX6_areEven_0 : decode cX6_areEven 0 = .ok (.aload_n 0, 1) := by decide +kernel
theorem dX6_areEven_1 : decode cX6_areEven 1 = .ok (.iload_n 1, 1) := by decide +kernel
theorem dX6_areEven_2 : decode cX6_areEven 2 = .ok (.invokevirtual 25, 3) := by decide +kernel
theorem dX6_areEven_5 : decode cX6_areEven 5 = .ok (.ifCond .eq 30, 3) := by decide +kernel
theorem dX6_areEven_8 : decode cX6_areEven 8 = .ok (.aload_n 0, 1) := by decide +kernel
theorem dX6_areEven_9 : decode cX6_areEven 9 = .ok (.iload_n 2, 1) := by decide +kernel
theorem dX6_areEven_10 : decode cX6_areEven 10 = .ok (.invokevirtual 25, 3) := by decide +kernel
theorem dX6_areEven_13 : decode cX6_areEven 13 = .ok (.ifCond .eq 22, 3) := by decide +kernel
theorem dX6_areEven_16 : decode cX6_areEven 16 = .ok (.aload_n 0, 1) := by decide +kernel
theorem dX6_areEven_17 : decode cX6_areEven 17 = .ok (.getfield 15, 3) := by decide +kernel
theorem dX6_areEven_20 : decode cX6_areEven 20 = .ok (.iload_n 1, 1) := by decide +kernel
theorem dX6_areEven_21 : decode cX6_areEven 21 = .ok (.iaload, 1) := by decide +kernel
theorem dX6_areEven_22 : decode cX6_areEven 22 = .ok (.aload_n 0, 1) := by decide +kernel
theorem dX6_areEven_23 : decode cX6_areEven 23 = .ok (.getfield 15, 3) := by decide +kernel
theorem dX6_areEven_26 : decode cX6_areEven 26 = .ok (.iload_n 2, 1) := by decide +kernel
theorem dX6_areEven_27 : decode cX6_areEven 27 = .ok (.iaload, 1) := by decide +kernel
theorem dX6_areEven_28 : decode cX6_areEven 28 = .ok (.if_icmp .ne 7, 3) := by decide +kernel
theorem dX6_areEven_31 : decode cX6_areEven 31 = .ok (.iconst 1, 1) := by decide +kernel
theorem dX6_areEven_32 : decode cX6_areEven 32 = .ok (.goto 4, 3) := by decide +kernel
theorem dX6_areEven_35 : decode cX6_areEven 35 = .ok (.iconst 0, 1) := by decide +kernel
theorem dX6_areEven_36 : decode cX6_areEven 36 = .ok (.ireturn, 1) := by decide +kernel
def f_X6_areEven0 (σ : St) (p1 : Int32) (p2 : Int32) : Option (Int32 × St) := bnd2 (f_X6_has σ p1) (fun r2 σ3 => if r2 = 0 then (some ((0 : Int32), σ3)) else (bnd2 (f_X6_has σ3 p2) (fun r6 σ7 => if r6 = 0 then (some ((0 : Int32), σ7)) else (chk (p1 < 0 ∨ 10 ≤ p1.toNatClampNeg) (chk (p2 < 0 ∨ 10 ≤ p2.toNatClampNeg) (if σ7.2.2.1 301 0 p1.toNatClampNeg = σ7.2.2.1 301 0 p2.toNatClampNeg then (some ((1 : Int32), σ7)) else (some ((0 : Int32), σ7))))))))
def f_X6_areEven (σ : St) (p1 : Int32) (p2 : Int32) : Option (Int32 × St) := chkB (f_X6_areEven0 σ p1 p2)
set_option maxHeartbeats 4000000 in
set_option maxRecDepth 100000 in
theorem c_X6_areEven {l : Launch} {g : va_G} {ts : ClassId × ClassId × ClassId} {a : Nat → Nat} {σ : St} {p1 : Int32} {p2 : Int32} {r : Int32} {σ' : St} (hf : f_X6_areEven σ p1 p2 = some (r, σ')) : ConI l g ts (WC ts a) yX6_areEven cX6_areEven 3 (some .boolean) (rk 1 21) σ [.ref (a 8), .int p1, .int p2] r σ' := by
  rw [f_X6_areEven] at hf
  obtain ⟨hf, hn⟩ := chkB_some hf
  refine ConI_mk .boolean rfl hn rfl rfl (by decide) (Nat.le_of_ble_eq_true rfl) ?_
  intro p e s m below meth c A Q ls C hQ hP hD hS hl
  have C : FX p s m _ meth c RX6 cX6_areEven 3 g ts A := C
  have hx := C.1
  have hb := C.2.1
  have hown := C.2.2.2.1
  have hts := C.2.2.2.2.1
  have hl : lv_has ls 3 [(0, .ref (a 8)), (1, .int p1), (2, .int p2)] := hl
  rw [f_X6_areEven0] at hf
  refine lv_aload_n hx hb dX6_areEven_0 rfl (lv_at hl 0 rfl) ?_
  refine lv_iload_n hx hb dX6_areEven_1 rfl (lv_at hl 1 rfl) ?_
  obtain ⟨r2, σ3, h1, hf⟩ := bnd2_some hf
  refine vI [] C hP hD hS (c_X6_has h1) mv_X6_has q_752 rv_X6 dX6_areEven_2 ⟨Nat.le_of_ble_eq_true rfl, Nat.le_of_ble_eq_true rfl⟩ ⟨Nat.zero_le _, Nat.zero_le _⟩ rfl rfl (Nat.le_of_ble_eq_true rfl) hl.1 (fun H locs hP hD hS => ?_)
  refine lv_if_eq (tgt := 35) hx hb dX6_areEven_5 (by decide) (fun c4 => ?_) (fun c4 => ?_)
  · replace hf := ipos c4 hf
    refine lv_iconst (v := 0) hx hb dX6_areEven_35 (by decide) ?_
    exact retI hQ hf dX6_areEven_36 hP hD hS
  · replace hf := ineg c4 hf
    refine lv_aload_n hx hb dX6_areEven_8 rfl (lv_at hl 0 rfl) ?_
    refine lv_iload_n hx hb dX6_areEven_9 rfl (lv_at hl 2 rfl) ?_
    obtain ⟨r6, σ7, h5, hf⟩ := bnd2_some hf
    refine vI [] C hP hD hS (c_X6_has h5) mv_X6_has q_752 rv_X6 dX6_areEven_10 ⟨Nat.le_of_ble_eq_true rfl, Nat.le_of_ble_eq_true rfl⟩ ⟨Nat.zero_le _, Nat.zero_le _⟩ rfl rfl (Nat.le_of_ble_eq_true rfl) hl.1 (fun H locs hP hD hS => ?_)
    refine lv_if_eq (tgt := 35) hx hb dX6_areEven_13 (by decide) (fun c8 => ?_) (fun c8 => ?_)
    · replace hf := ipos c8 hf
      refine lv_iconst (v := 0) hx hb dX6_areEven_35 (by decide) ?_
      exact retI hQ hf dX6_areEven_36 hP hD hS
    · replace hf := ineg c8 hf
      refine lv_aload_n hx hb dX6_areEven_16 rfl (lv_at hl 0 rfl) ?_
      refine G_X6_sizes C hP q_156 dX6_areEven_17 ?_
      refine lv_iload_n hx hb dX6_areEven_20 rfl (lv_at hl 1 rfl) ?_
      obtain ⟨h9, hf⟩ := chk_some hf
      refine AL_X6_sizes C hP h9 dX6_areEven_21 ?_
      refine lv_aload_n hx hb dX6_areEven_22 rfl (lv_at hl 0 rfl) ?_
      refine G_X6_sizes C hP q_156 dX6_areEven_23 ?_
      refine lv_iload_n hx hb dX6_areEven_26 rfl (lv_at hl 2 rfl) ?_
      obtain ⟨h10, hf⟩ := chk_some hf
      refine AL_X6_sizes C hP h10 dX6_areEven_27 ?_
      refine lv_icmp_ne (tgt := 35) hx hb dX6_areEven_28 (by decide) (fun c11 => ?_) (fun c11 => ?_)
      · replace hf := ineg c11 hf
        refine lv_iconst (v := 0) hx hb dX6_areEven_35 (by decide) ?_
        exact retI hQ hf dX6_areEven_36 hP hD hS
      · replace hf := ipos c11 hf
        refine lv_iconst (v := 1) hx hb dX6_areEven_31 (by decide) ?_
        refine lv_goto (tgt := 36) hx hb dX6_areEven_32 (by decide) ?_
        exact retI hQ hf dX6_areEven_36 hP hD hS
theorem dX6_enter_0 : decode cX6_enter 0 = .ok (.aload_n 0, 1) := by decide +kernel
theorem dX6_enter_1 : decode cX6_enter 1 = .ok (.getfield 21, 3) := by decide +kernel
theorem dX6_enter_4 : decode cX6_enter 4 = .ok (.istore 4, 2) := by decide +kernel
theorem dX6_enter_6 : decode cX6_enter 6 = .ok (.iconst 0, 1) := by decide +kernel
theorem dX6_enter_7 : decode cX6_enter 7 = .ok (.istore 5, 2) := by decide +kernel
theorem dX6_enter_9 : decode cX6_enter 9 = .ok (.iload 5, 2) := by decide +kernel
theorem dX6_enter_11 : decode cX6_enter 11 = .ok (.iload_n 3, 1) := by decide +kernel
theorem dX6_enter_12 : decode cX6_enter 12 = .ok (.if_icmp .ge 30, 3) := by decide +kernel
theorem dX6_enter_15 : decode cX6_enter 15 = .ok (.aload_n 0, 1) := by decide +kernel
theorem dX6_enter_16 : decode cX6_enter 16 = .ok (.getfield 9, 3) := by decide +kernel
theorem dX6_enter_19 : decode cX6_enter 19 = .ok (.iload 4, 2) := by decide +kernel
theorem dX6_enter_21 : decode cX6_enter 21 = .ok (.bipush 6, 2) := by decide +kernel
theorem dX6_enter_23 : decode cX6_enter 23 = .ok (.imul, 1) := by decide +kernel
theorem dX6_enter_24 : decode cX6_enter 24 = .ok (.iload 5, 2) := by decide +kernel
theorem dX6_enter_26 : decode cX6_enter 26 = .ok (.iadd, 1) := by decide +kernel
theorem dX6_enter_27 : decode cX6_enter 27 = .ok (.aload_n 1, 1) := by decide +kernel
theorem dX6_enter_28 : decode cX6_enter 28 = .ok (.iload_n 2, 1) := by decide +kernel
theorem dX6_enter_29 : decode cX6_enter 29 = .ok (.iload 5, 2) := by decide +kernel
theorem dX6_enter_31 : decode cX6_enter 31 = .ok (.iadd, 1) := by decide +kernel
theorem dX6_enter_32 : decode cX6_enter 32 = .ok (.invokevirtual 29, 3) := by decide +kernel
theorem dX6_enter_35 : decode cX6_enter 35 = .ok (.iastore, 1) := by decide +kernel
theorem dX6_enter_36 : decode cX6_enter 36 = .ok (.iinc 5 1, 3) := by decide +kernel
theorem dX6_enter_39 : decode cX6_enter 39 = .ok (.goto (-30), 3) := by decide +kernel
theorem dX6_enter_42 : decode cX6_enter 42 = .ok (.aload_n 0, 1) := by decide +kernel
theorem dX6_enter_43 : decode cX6_enter 43 = .ok (.getfield 15, 3) := by decide +kernel
theorem dX6_enter_46 : decode cX6_enter 46 = .ok (.iload 4, 2) := by decide +kernel
theorem dX6_enter_48 : decode cX6_enter 48 = .ok (.iload_n 3, 1) := by decide +kernel
theorem dX6_enter_49 : decode cX6_enter 49 = .ok (.iastore, 1) := by decide +kernel
theorem dX6_enter_50 : decode cX6_enter 50 = .ok (.aload_n 0, 1) := by decide +kernel
theorem dX6_enter_51 : decode cX6_enter 51 = .ok (.getfield 18, 3) := by decide +kernel
theorem dX6_enter_54 : decode cX6_enter 54 = .ok (.iload 4, 2) := by decide +kernel
theorem dX6_enter_56 : decode cX6_enter 56 = .ok (.iconst 1, 1) := by decide +kernel
theorem dX6_enter_57 : decode cX6_enter 57 = .ok (.iastore, 1) := by decide +kernel
theorem dX6_enter_58 : decode cX6_enter 58 = .ok (.aload_n 0, 1) := by decide +kernel
theorem dX6_enter_59 : decode cX6_enter 59 = .ok (.dup, 1) := by decide +kernel
theorem dX6_enter_60 : decode cX6_enter 60 = .ok (.getfield 21, 3) := by decide +kernel
theorem dX6_enter_63 : decode cX6_enter 63 = .ok (.iconst 1, 1) := by decide +kernel
theorem dX6_enter_64 : decode cX6_enter 64 = .ok (.iadd, 1) := by decide +kernel
theorem dX6_enter_65 : decode cX6_enter 65 = .ok (.putfield 21, 3) := by decide +kernel
theorem dX6_enter_68 : decode cX6_enter 68 = .ok (.iload 4, 2) := by decide +kernel
theorem dX6_enter_70 : decode cX6_enter 70 = .ok (.ireturn, 1) := by decide +kernel
def f_X6_enter_b9 : Nat → St → Nat → Int32 → Int32 → Int32 → Int32 → Option (Int32 × St)
  | 0, _, _, _, _, _, _ => none
  | n + 1, σ, o0, x2, x3, x4, x5 => if x3 ≤ x5 then (chk (x4 < 0 ∨ 10 ≤ x4.toNatClampNeg) (bnd (sA σ 301 0 (upd (σ.2.2.1 301 0) x4.toNatClampNeg x3)) (fun σ4 => chk (x4 < 0 ∨ 10 ≤ x4.toNatClampNeg) (bnd (sA σ4 302 0 (upd (σ4.2.2.1 302 0) x4.toNatClampNeg (1 : Int32))) (fun σ6 => some (x4, sI σ6 303 0 ((σ6.1 303 0) + (1 : Int32)))))))) else (bnd2 (f_X8_letterAt σ o0 (x2 + x5)) (fun r8 σ9 => chk ((x4 * (6 : Int32)) + x5 < 0 ∨ 60 ≤ ((x4 * (6 : Int32)) + x5).toNatClampNeg) (bnd (sA σ9 300 0 (upd (σ9.2.2.1 300 0) ((x4 * (6 : Int32)) + x5).toNatClampNeg r8)) (fun σ11 => bnd (x5 + 1) (fun v12 => f_X6_enter_b9 n σ11 o0 x2 x3 x4 v12)))))
def f_X6_enter (σ : St) (i1 : Nat) (p2 : Int32) (p3 : Int32) : Option (Int32 × St) := bnd (σ.1 303 0) (fun v1 => f_X6_enter_b9 256 σ i1 p2 p3 v1 (0 : Int32))
set_option maxHeartbeats 4000000 in
set_option maxRecDepth 100000 in
theorem w_X6_enter_b9 {p : Program} {l : Launch} {e : Env} {s : State} {m : MethodId} {args : Array Value} {below : List Frame} {meth : Method} {c : Code} {g : va_G} {ts : ClassId × ClassId × ClassId} {A : Nat → Prop} {Q : State → Prop} {a : Nat → Nat} {r : Int32} {σ' : St} (C : FX p s m args meth c RX6 cX6_enter 6 g ts A) (hQ : RetI p l e (rk 2 43) s m args below meth c cX6_enter g (WC ts a) A r σ' Q) : ∀ (n : Nat) (σ : St) (o0 : Nat) (x2 : Int32) (x3 : Int32) (x4 : Int32) (x5 : Int32) (H : Heap) (locs : List Loc) (ls : Array Slot), f_X6_enter_b9 n σ o0 x2 x3 x4 x5 = some (r, σ') → va_P g classes (WC ts a σ) H → va_D A (WC ts a σ) → va_S A s.heap H locs → o0 < 6 → lv_has ls 6 [(0, .ref (a 8)), (1, .ref (a (36 + 2 * o0))), (2, .int x2), (3, .int x3), (4, .int x4), (5, .int x5)] → W p l e (rk 2 43) s m args below meth c H locs 0 0 Q (F0 m 9 ls []) := by
  have hx := C.1
  have hb := C.2.1
  have hown := C.2.2.2.1
  have hts := C.2.2.2.2.1
  intro n
  induction n with
  | zero =>
    intro σ o0 x2 x3 x4 x5 H locs ls hf
    cases hf
  | succ n ih =>
    intro σ o0 x2 x3 x4 x5 H locs ls hf hP hD hS ho0 hl
    rw [f_X6_enter_b9] at hf
    refine lv_iload hx hb dX6_enter_9 (lv_at hl 5 rfl) ?_
    refine lv_iload_n hx hb dX6_enter_11 rfl (lv_at hl 3 rfl) ?_
    refine lv_icmp_ge (tgt := 42) hx hb dX6_enter_12 (by decide) (fun c2 => ?_) (fun c2 => ?_)
    · replace hf := ipos c2 hf
      refine lv_aload_n hx hb dX6_enter_42 rfl (lv_at hl 0 rfl) ?_
      refine G_X6_sizes C hP q_156 dX6_enter_43 ?_
      refine lv_iload hx hb dX6_enter_46 (lv_at hl 4 rfl) ?_
      refine lv_iload_n hx hb dX6_enter_48 rfl (lv_at hl 3 rfl) ?_
      obtain ⟨h3, hf⟩ := chk_some hf
      refine AS_X6_sizes C hP hD hS h3 dX6_enter_49 (fun H locs hP hD hS => ?_)
      refine nameS hP hD hf (fun σ4 hP hD hf => ?_)
      refine lv_aload_n hx hb dX6_enter_50 rfl (lv_at hl 0 rfl) ?_
      refine G_X6_known C hP q_161 dX6_enter_51 ?_
      refine lv_iload hx hb dX6_enter_54 (lv_at hl 4 rfl) ?_
      refine lv_iconst (v := 1) hx hb dX6_enter_56 (by decide) ?_
      obtain ⟨h5, hf⟩ := chk_some hf
      refine AS_X6_known C hP hD hS h5 dX6_enter_57 (fun H locs hP hD hS => ?_)
      refine nameS hP hD hf (fun σ6 hP hD hf => ?_)
      refine lv_aload_n hx hb dX6_enter_58 rfl (lv_at hl 0 rfl) ?_
      refine lv_dup hx hb dX6_enter_59 rfl ?_
      refine G_X6_number C hP q_164 dX6_enter_60 ?_
      refine lv_iconst (v := 1) hx hb dX6_enter_63 (by decide) ?_
      refine lv_iadd hx hb dX6_enter_64 ?_
      refine S_X6_number C hP hD hS q_164 dX6_enter_65 (fun H locs hP hD hS => ?_)
      refine lv_iload hx hb dX6_enter_68 (lv_at hl 4 rfl) ?_
      exact retI hQ hf dX6_enter_70 hP hD hS
    · replace hf := ineg c2 hf
      refine lv_aload_n hx hb dX6_enter_15 rfl (lv_at hl 0 rfl) ?_
      refine G_X6_letters C hP q_155 dX6_enter_16 ?_
      refine lv_iload hx hb dX6_enter_19 (lv_at hl 4 rfl) ?_
      refine lv_bipush (v := 6) hx hb dX6_enter_21 (by decide) ?_
      refine lv_imul hx hb dX6_enter_23 ?_
      refine lv_iload hx hb dX6_enter_24 (lv_at hl 5 rfl) ?_
      refine lv_iadd hx hb dX6_enter_26 ?_
      refine lv_aload_n hx hb dX6_enter_27 rfl (lv_at hl 1 rfl) ?_
      refine lv_iload_n hx hb dX6_enter_28 rfl (lv_at hl 2 rfl) ?_
      refine lv_iload hx hb dX6_enter_29 (lv_at hl 5 rfl) ?_
      refine lv_iadd hx hb dX6_enter_31 ?_
      obtain ⟨r8, σ9, h7, hf⟩ := bnd2_some hf
      refine vI [.int ((x4 * (6 : Int32)) + x5), .ref (a 9)] C hP hD hS (c_X8_letterAt ho0 h7) mv_X8_letterAt q_456 (rv_X8 ho0) dX6_enter_32 ⟨Nat.le_of_ble_eq_true rfl, Nat.le_of_ble_eq_true rfl⟩ ⟨Nat.zero_le _, Nat.zero_le _⟩ rfl rfl (Nat.le_of_ble_eq_true rfl) hl.1 (fun H locs hP hD hS => ?_)
      obtain ⟨h10, hf⟩ := chk_some hf
      refine AS_X6_letters C hP hD hS h10 dX6_enter_35 (fun H locs hP hD hS => ?_)
      refine nameS hP hD hf (fun σ11 hP hD hf => ?_)
      obtain ⟨v12, ev12⟩ : ∃ z : Int32, z = x5 + 1 := ⟨_, rfl⟩
      replace hf := bnd_at ev12 hf
      refine lv_iinc (v := v12) (lv' := [(5, .int v12), (0, .ref (a 8)), (1, .ref (a (36 + 2 * o0))), (2, .int x2), (3, .int x3), (4, .int x4)]) hx hb dX6_enter_36 hl (k := 5) rfl (by rw [ev12]; rfl) (by decide) rfl (fun ls hl => ?_)
      refine lv_goto (tgt := 9) hx hb dX6_enter_39 (by decide) ?_
      exact ih _ _ _ _ _ _ _ _ _ hf hP hD hS ho0 (lv_sub hl [1, 2, 3, 4, 5, 0] rfl)
set_option maxHeartbeats 4000000 in
set_option maxRecDepth 100000 in
theorem c_X6_enter {l : Launch} {g : va_G} {ts : ClassId × ClassId × ClassId} {a : Nat → Nat} {σ : St} {i1 : Nat} {p2 : Int32} {p3 : Int32} {r : Int32} {σ' : St} (hi1 : i1 < 6) (hf : f_X6_enter σ i1 p2 p3 = some (r, σ')) : ConI l g ts (WC ts a) yX6_enter cX6_enter 6 (some .int) (rk 2 43) σ [.ref (a 8), .ref (a (36 + 2 * i1)), .int p2, .int p3] r σ' := by
  refine ConI_mk .int rfl rfl rfl rfl (by decide) (Nat.le_of_ble_eq_true rfl) ?_
  intro p e s m below meth c A Q ls C hQ hP hD hS hl
  have C : FX p s m _ meth c RX6 cX6_enter 6 g ts A := C
  have hx := C.1
  have hb := C.2.1
  have hown := C.2.2.2.1
  have hts := C.2.2.2.2.1
  have hl : lv_has ls 6 [(0, .ref (a 8)), (1, .ref (a (36 + 2 * i1))), (2, .int p2), (3, .int p3)] := hl
  rw [f_X6_enter] at hf
  refine lv_aload_n hx hb dX6_enter_0 rfl (lv_at hl 0 rfl) ?_
  refine G_X6_number C hP q_164 dX6_enter_1 ?_
  refine lv_topi (fun v1 ev1 => ?_)
  replace hf := bnd_at ev1 hf
  refine lv_istore (lv' := [(4, .int v1), (0, .ref (a 8)), (1, .ref (a (36 + 2 * i1))), (2, .int p2), (3, .int p3)]) hx hb dX6_enter_4 hl (by decide) rfl (fun ls hl => ?_)
  refine lv_iconst (v := 0) hx hb dX6_enter_6 (by decide) ?_
  refine lv_istore (lv' := [(5, .int (0 : Int32)), (4, .int v1), (0, .ref (a 8)), (1, .ref (a (36 + 2 * i1))), (2, .int p2), (3, .int p3)]) hx hb dX6_enter_7 hl (by decide) rfl (fun ls hl => ?_)
  exact w_X6_enter_b9 C hQ 256 _ _ _ _ _ _ _ _ _ hf hP hD hS hi1 (lv_sub hl [2, 3, 4, 5, 1, 0] rfl)
theorem dX6_unlike_0 : decode cX6_unlike 0 = .ok (.iconst 0, 1) := by decide +kernel
theorem dX6_unlike_1 : decode cX6_unlike 1 = .ok (.istore_n 3, 1) := by decide +kernel
theorem dX6_unlike_2 : decode cX6_unlike 2 = .ok (.iconst 0, 1) := by decide +kernel
theorem dX6_unlike_3 : decode cX6_unlike 3 = .ok (.istore 4, 2) := by decide +kernel
theorem dX6_unlike_5 : decode cX6_unlike 5 = .ok (.iload 4, 2) := by decide +kernel
theorem dX6_unlike_7 : decode cX6_unlike 7 = .ok (.aload_n 0, 1) := by decide +kernel
theorem dX6_unlike_8 : decode cX6_unlike 8 = .ok (.getfield 15, 3) := by decide +kernel
theorem dX6_unlike_11 : decode cX6_unlike 11 = .ok (.iload_n 1, 1) := by decide +kernel
theorem dX6_unlike_12 : decode cX6_unlike 12 = .ok (.iaload, 1) := by decide +kernel
theorem dX6_unlike_13 : decode cX6_unlike 13 = .ok (.if_icmp .ge 28, 3) := by decide +kernel
theorem dX6_unlike_16 : decode cX6_unlike 16 = .ok (.aload_n 2, 1) := by decide +kernel
theorem dX6_unlike_17 : decode cX6_unlike 17 = .ok (.iload 4, 2) := by decide +kernel
theorem dX6_unlike_19 : decode cX6_unlike 19 = .ok (.invokevirtual 29, 3) := by decide +kernel
theorem dX6_unlike_22 : decode cX6_unlike 22 = .ok (.aload_n 0, 1) := by decide +kernel
theorem dX6_unlike_23 : decode cX6_unlike 23 = .ok (.iload_n 1, 1) := by decide +kernel
theorem dX6_unlike_24 : decode cX6_unlike 24 = .ok (.iload 4, 2) := by decide +kernel
theorem dX6_unlike_26 : decode cX6_unlike 26 = .ok (.invokevirtual 35, 3) := by decide +kernel
theorem dX6_unlike_29 : decode cX6_unlike 29 = .ok (.if_icmp .eq 6, 3) := by decide +kernel
theorem dX6_unlike_32 : decode cX6_unlike 32 = .ok (.iinc 3 1, 3) := by decide +kernel
theorem dX6_unlike_35 : decode cX6_unlike 35 = .ok (.iinc 4 1, 3) := by decide +kernel
theorem dX6_unlike_38 : decode cX6_unlike 38 = .ok (.goto (-33), 3) := by decide +kernel
theorem dX6_unlike_41 : decode cX6_unlike 41 = .ok (.iload_n 3, 1) := by decide +kernel
theorem dX6_unlike_42 : decode cX6_unlike 42 = .ok (.ireturn, 1) := by decide +kernel
def f_X6_unlike_b5 : Nat → St → Nat → Int32 → Int32 → Int32 → Option (Int32 × St)
  | 0, _, _, _, _, _ => none
  | n + 1, σ, o0, x1, x3, x4 => chk (x1 < 0 ∨ 10 ≤ x1.toNatClampNeg) (if σ.2.2.1 301 0 x1.toNatClampNeg ≤ x4 then (some (x3, σ)) else (bnd2 (f_X8_letterAt σ o0 x4) (fun r4 σ5 => bnd2 (f_X6_at σ5 x1 x4) (fun r7 σ8 => if r4 = r7 then (bnd (x4 + 1) (fun v10 => f_X6_unlike_b5 n σ8 o0 x1 x3 v10)) else (bnd (x3 + 1) (fun v11 => bnd (x4 + 1) (fun v12 => f_X6_unlike_b5 n σ8 o0 x1 v11 v12)))))))
def f_X6_unlike (σ : St) (i2 : Nat) (p1 : Int32) : Option (Int32 × St) := f_X6_unlike_b5 256 σ i2 p1 (0 : Int32) (0 : Int32)
set_option maxHeartbeats 4000000 in
set_option maxRecDepth 100000 in
theorem w_X6_unlike_b5 {p : Program} {l : Launch} {e : Env} {s : State} {m : MethodId} {args : Array Value} {below : List Frame} {meth : Method} {c : Code} {g : va_G} {ts : ClassId × ClassId × ClassId} {A : Nat → Prop} {Q : State → Prop} {a : Nat → Nat} {r : Int32} {σ' : St} (C : FX p s m args meth c RX6 cX6_unlike 5 g ts A) (hQ : RetI p l e (rk 2 43) s m args below meth c cX6_unlike g (WC ts a) A r σ' Q) : ∀ (n : Nat) (σ : St) (o0 : Nat) (x1 : Int32) (x3 : Int32) (x4 : Int32) (H : Heap) (locs : List Loc) (ls : Array Slot), f_X6_unlike_b5 n σ o0 x1 x3 x4 = some (r, σ') → va_P g classes (WC ts a σ) H → va_D A (WC ts a σ) → va_S A s.heap H locs → o0 < 6 → lv_has ls 5 [(0, .ref (a 8)), (1, .int x1), (2, .ref (a (36 + 2 * o0))), (3, .int x3), (4, .int x4)] → W p l e (rk 2 43) s m args below meth c H locs 0 0 Q (F0 m 5 ls []) := by
  have hx := C.1
  have hb := C.2.1
  have hown := C.2.2.2.1
  have hts := C.2.2.2.2.1
  intro n
  induction n with
  | zero =>
    intro σ o0 x1 x3 x4 H locs ls hf
    cases hf
  | succ n ih =>
    intro σ o0 x1 x3 x4 H locs ls hf hP hD hS ho0 hl
    rw [f_X6_unlike_b5] at hf
    refine lv_iload hx hb dX6_unlike_5 (lv_at hl 4 rfl) ?_
    refine lv_aload_n hx hb dX6_unlike_7 rfl (lv_at hl 0 rfl) ?_
    refine G_X6_sizes C hP q_156 dX6_unlike_8 ?_
    refine lv_iload_n hx hb dX6_unlike_11 rfl (lv_at hl 1 rfl) ?_
    obtain ⟨h1, hf⟩ := chk_some hf
    refine AL_X6_sizes C hP h1 dX6_unlike_12 ?_
    refine lv_icmp_ge (tgt := 41) hx hb dX6_unlike_13 (by decide) (fun c2 => ?_) (fun c2 => ?_)
    · replace hf := ipos c2 hf
      refine lv_iload_n hx hb dX6_unlike_41 rfl (lv_at hl 3 rfl) ?_
      exact retI hQ hf dX6_unlike_42 hP hD hS
    · replace hf := ineg c2 hf
      refine lv_aload_n hx hb dX6_unlike_16 rfl (lv_at hl 2 rfl) ?_
      refine lv_iload hx hb dX6_unlike_17 (lv_at hl 4 rfl) ?_
      obtain ⟨r4, σ5, h3, hf⟩ := bnd2_some hf
      refine vI [] C hP hD hS (c_X8_letterAt ho0 h3) mv_X8_letterAt q_456 (rv_X8 ho0) dX6_unlike_19 ⟨Nat.le_of_ble_eq_true rfl, Nat.le_of_ble_eq_true rfl⟩ ⟨Nat.zero_le _, Nat.zero_le _⟩ rfl rfl (Nat.le_of_ble_eq_true rfl) hl.1 (fun H locs hP hD hS => ?_)
      refine lv_aload_n hx hb dX6_unlike_22 rfl (lv_at hl 0 rfl) ?_
      refine lv_iload_n hx hb dX6_unlike_23 rfl (lv_at hl 1 rfl) ?_
      refine lv_iload hx hb dX6_unlike_24 (lv_at hl 4 rfl) ?_
      obtain ⟨r7, σ8, h6, hf⟩ := bnd2_some hf
      refine vI [.int r4] C hP hD hS (c_X6_at h6) mv_X6_at q_698 rv_X6 dX6_unlike_26 ⟨Nat.le_of_ble_eq_true rfl, Nat.le_of_ble_eq_true rfl⟩ ⟨Nat.zero_le _, Nat.zero_le _⟩ rfl rfl (Nat.le_of_ble_eq_true rfl) hl.1 (fun H locs hP hD hS => ?_)
      refine lv_icmp_eq (tgt := 35) hx hb dX6_unlike_29 (by decide) (fun c9 => ?_) (fun c9 => ?_)
      · replace hf := ipos c9 hf
        obtain ⟨v10, ev10⟩ : ∃ z : Int32, z = x4 + 1 := ⟨_, rfl⟩
        replace hf := bnd_at ev10 hf
        refine lv_iinc (v := v10) (lv' := [(4, .int v10), (0, .ref (a 8)), (1, .int x1), (2, .ref (a (36 + 2 * o0))), (3, .int x3)]) hx hb dX6_unlike_35 hl (k := 4) rfl (by rw [ev10]; rfl) (by decide) rfl (fun ls hl => ?_)
        refine lv_goto (tgt := 5) hx hb dX6_unlike_38 (by decide) ?_
        exact ih _ _ _ _ _ _ _ _ hf hP hD hS ho0 (lv_sub hl [1, 2, 3, 4, 0] rfl)
      · replace hf := ineg c9 hf
        obtain ⟨v11, ev11⟩ : ∃ z : Int32, z = x3 + 1 := ⟨_, rfl⟩
        replace hf := bnd_at ev11 hf
        refine lv_iinc (v := v11) (lv' := [(3, .int v11), (0, .ref (a 8)), (1, .int x1), (2, .ref (a (36 + 2 * o0))), (4, .int x4)]) hx hb dX6_unlike_32 hl (k := 3) rfl (by rw [ev11]; rfl) (by decide) rfl (fun ls hl => ?_)
        obtain ⟨v12, ev12⟩ : ∃ z : Int32, z = x4 + 1 := ⟨_, rfl⟩
        replace hf := bnd_at ev12 hf
        refine lv_iinc (v := v12) (lv' := [(4, .int v12), (3, .int v11), (0, .ref (a 8)), (1, .int x1), (2, .ref (a (36 + 2 * o0)))]) hx hb dX6_unlike_35 hl (k := 4) rfl (by rw [ev12]; rfl) (by decide) rfl (fun ls hl => ?_)
        refine lv_goto (tgt := 5) hx hb dX6_unlike_38 (by decide) ?_
        exact ih _ _ _ _ _ _ _ _ hf hP hD hS ho0 (lv_sub hl [2, 3, 4, 1, 0] rfl)
set_option maxHeartbeats 4000000 in
set_option maxRecDepth 100000 in
theorem c_X6_unlike {l : Launch} {g : va_G} {ts : ClassId × ClassId × ClassId} {a : Nat → Nat} {σ : St} {i2 : Nat} {p1 : Int32} {r : Int32} {σ' : St} (hi2 : i2 < 6) (hf : f_X6_unlike σ i2 p1 = some (r, σ')) : ConI l g ts (WC ts a) yX6_unlike cX6_unlike 5 (some .int) (rk 2 43) σ [.ref (a 8), .int p1, .ref (a (36 + 2 * i2))] r σ' := by
  refine ConI_mk .int rfl rfl rfl rfl (by decide) (Nat.le_of_ble_eq_true rfl) ?_
  intro p e s m below meth c A Q ls C hQ hP hD hS hl
  have C : FX p s m _ meth c RX6 cX6_unlike 5 g ts A := C
  have hx := C.1
  have hb := C.2.1
  have hown := C.2.2.2.1
  have hts := C.2.2.2.2.1
  have hl : lv_has ls 5 [(0, .ref (a 8)), (1, .int p1), (2, .ref (a (36 + 2 * i2)))] := hl
  rw [f_X6_unlike] at hf
  refine lv_iconst (v := 0) hx hb dX6_unlike_0 (by decide) ?_
  refine lv_istore_n (lv' := [(3, .int (0 : Int32)), (0, .ref (a 8)), (1, .int p1), (2, .ref (a (36 + 2 * i2)))]) hx hb dX6_unlike_1 rfl hl (by decide) rfl (fun ls hl => ?_)
  refine lv_iconst (v := 0) hx hb dX6_unlike_2 (by decide) ?_
  refine lv_istore (lv' := [(4, .int (0 : Int32)), (3, .int (0 : Int32)), (0, .ref (a 8)), (1, .int p1), (2, .ref (a (36 + 2 * i2)))]) hx hb dX6_unlike_3 hl (by decide) rfl (fun ls hl => ?_)
  exact w_X6_unlike_b5 C hQ 256 _ _ _ _ _ _ _ _ hf hP hD hS hi2 (lv_sub hl [2, 3, 4, 1, 0] rfl)
