theorem mv_X12_either : MV yX12_either cX12_either 3 (some .int) 0 := ⟨q_1285, q_23, q_71, q_1286, by decide +kernel, by decide +kernel, by decide +kernel⟩
theorem mv_X12_both : MV yX12_both cX12_both 3 (some .int) 0 := ⟨q_1289, q_24, q_71, q_1290, by decide +kernel, by decide +kernel, by decide +kernel⟩
theorem mv_X12_compared : MV yX12_compared cX12_compared 4 (some .int) 0 := ⟨q_1293, q_25, q_71, q_1294, by decide +kernel, by decide +kernel, by decide +kernel⟩
theorem mv_X12_sumsUp : MV yX12_sumsUp cX12_sumsUp 4 (some .int) 0 := ⟨q_1297, q_26, q_71, q_1298, by decide +kernel, by decide +kernel, by decide +kernel⟩
theorem mv_X12_product : MV yX12_product cX12_product 4 (some .int) 0 := ⟨q_1301, q_27, q_71, q_1302, by decide +kernel, by decide +kernel, by decide +kernel⟩
theorem mv_X12_one : MV yX12_one cX12_one 5 (some .int) 0 := ⟨q_1305, q_28, q_71, q_1306, by decide +kernel, by decide +kernel, by decide +kernel⟩
theorem dX12_either_0 : decode cX12_either 0 = .ok (.aload_n 0, 1) := by decide +kernel
theorem dX12_either_1 : decode cX12_either 1 = .ok (.invokevirtual 160, 3) := by decide +kernel
theorem dX12_either_4 : decode cX12_either 4 = .ok (.istore_n 1, 1) := by decide +kernel
theorem dX12_either_5 : decode cX12_either 5 = .ok (.aload_n 0, 1) := by decide +kernel
theorem dX12_either_6 : decode cX12_either 6 = .ok (.bipush 124, 2) := by decide +kernel
theorem dX12_either_8 : decode cX12_either 8 = .ok (.invokevirtual 163, 3) := by decide +kernel
theorem dX12_either_11 : decode cX12_either 11 = .ok (.ifCond .eq 25, 3) := by decide +kernel
theorem dX12_either_14 : decode cX12_either 14 = .ok (.aload_n 0, 1) := by decide +kernel
theorem dX12_either_15 : decode cX12_either 15 = .ok (.invokevirtual 160, 3) := by decide +kernel
theorem dX12_either_18 : decode cX12_either 18 = .ok (.istore_n 2, 1) := by decide +kernel
theorem dX12_either_19 : decode cX12_either 19 = .ok (.iload_n 1, 1) := by decide +kernel
theorem dX12_either_20 : decode cX12_either 20 = .ok (.ifCond .ne 7, 3) := by decide +kernel
theorem dX12_either_23 : decode cX12_either 23 = .ok (.iload_n 2, 1) := by decide +kernel
theorem dX12_either_24 : decode cX12_either 24 = .ok (.ifCond .eq 7, 3) := by decide +kernel
theorem dX12_either_27 : decode cX12_either 27 = .ok (.iconst 1, 1) := by decide +kernel
theorem dX12_either_28 : decode cX12_either 28 = .ok (.goto 4, 3) := by decide +kernel
theorem dX12_either_31 : decode cX12_either 31 = .ok (.iconst 0, 1) := by decide +kernel
theorem dX12_either_32 : decode cX12_either 32 = .ok (.istore_n 1, 1) := by decide +kernel
theorem dX12_either_33 : decode cX12_either 33 = .ok (.goto (-28), 3) := by decide +kernel
theorem dX12_either_36 : decode cX12_either 36 = .ok (.iload_n 1, 1) := by decide +kernel
theorem dX12_either_37 : decode cX12_either 37 = .ok (.ireturn, 1) := by decide +kernel
def f_X12_either_b5 (rc_X12_both : St → Option (Int32 × St)) : Nat → St → Int32 → Option (Int32 × St)
  | 0, _, _ => none
  | n + 1, σ, x1 => bnd2 (f_X12_takes σ (124 : Int32)) (fun r5 σ6 => if r5 = 0 then (some (x1, σ6)) else (bnd2 (rc_X12_both σ6) (fun r9 σ10 => if x1 = 0 then (if r9 = 0 then (f_X12_either_b5 rc_X12_both n σ10 (0 : Int32)) else (f_X12_either_b5 rc_X12_both n σ10 (1 : Int32))) else (f_X12_either_b5 rc_X12_both n σ10 (1 : Int32)))))
def f_X12_either1 (rc_X12_both : St → Option (Int32 × St)) (σ : St) : Option (Int32 × St) := bnd2 (rc_X12_both σ) (fun r2 σ3 => f_X12_either_b5 rc_X12_both 256 σ3 r2)
set_option maxHeartbeats 4000000 in
set_option maxRecDepth 100000 in
theorem w_X12_either_b5 {p : Program} {l : Launch} {e : Env} {s : State} {m : MethodId} {args : Array Value} {below : List Frame} {meth : Method} {c : Code} {g : va_G} {ts : ClassId × ClassId × ClassId} {A : Nat → Prop} {Q : State → Prop} {a : Nat → Nat} {r : Int32} {σ' : St} {Rf Rl : Nat} {Rf_X12_both Rl_X12_both : Nat} {rc_X12_both : St → Option (Int32 × St)} (C : FX p s m args meth c RX12 cX12_either 3 g ts A) (hQ : RetI p l e (rk (Rf + 2) (Rl + 41)) s m args below meth c cX12_either g (WM ts a) A r σ' Q) (hrc_X12_both : (Rf_X12_both ≤ Rf ∧ Rl_X12_both ≤ Rl) ∧ ∀ (σ : St) (r : Int32) (u : St), rc_X12_both σ = some (r, u) → ConI l g ts (WM ts a) yX12_both cX12_both 3 (some .int) (rk Rf_X12_both Rl_X12_both) σ [.ref (a 0)] r u) : ∀ (n : Nat) (σ : St) (x1 : Int32) (H : Heap) (locs : List Loc) (ls : Array Slot), f_X12_either_b5 rc_X12_both n σ x1 = some (r, σ') → va_P g classes (WM ts a σ) H → va_D A (WM ts a σ) → va_S A s.heap H locs → lv_has ls 3 [(0, .ref (a 0)), (1, .int x1)] → W p l e (rk (Rf + 2) (Rl + 41)) s m args below meth c H locs 0 0 Q (F0 m 5 ls []) := by
  have hx := C.1
  have hb := C.2.1
  have hown := C.2.2.2.1
  have hts := C.2.2.2.2.1
  intro n
  induction n with
  | zero =>
    intro σ x1 H locs ls hf
    cases hf
  | succ n ih =>
    intro σ x1 H locs ls hf hP hD hS hl
    rw [f_X12_either_b5] at hf
    refine lv_aload_n hx hb dX12_either_5 rfl (lv_at hl 0 rfl) ?_
    refine lv_bipush (v := 124) hx hb dX12_either_6 (by decide) ?_
    obtain ⟨r5, σ6, h4, hf⟩ := bnd2_some hf
    refine vI [] C hP hD hS (c_X12_takes h4) mv_X12_takes q_1315 rv_X12 dX12_either_8 ⟨by show 1 + 1 ≤ _ + _; omega, by show 8 + (2 + 11) + 20 ≤ _ + _; omega⟩ ⟨Nat.zero_le _, Nat.zero_le _⟩ rfl rfl (Nat.le_of_ble_eq_true rfl) hl.1 (fun H locs hP hD hS => ?_)
    refine lv_if_eq (tgt := 36) hx hb dX12_either_11 (by decide) (fun c7 => ?_) (fun c7 => ?_)
    · replace hf := ipos c7 hf
      refine lv_iload_n hx hb dX12_either_36 rfl (lv_at hl 1 rfl) ?_
      exact retI hQ hf dX12_either_37 hP hD hS
    · replace hf := ineg c7 hf
      refine lv_aload_n hx hb dX12_either_14 rfl (lv_at hl 0 rfl) ?_
      obtain ⟨r9, σ10, h8, hf⟩ := bnd2_some hf
      refine vI [] C hP hD hS (hrc_X12_both.2 _ _ _  h8) mv_X12_both q_1287 rv_X12 dX12_either_15 ⟨by have hz := hrc_X12_both.1; show Rf_X12_both + 1 ≤ Rf + _; omega, by have hz := hrc_X12_both.1; show 8 + (3 + 11) + Rl_X12_both ≤ Rl + _; omega⟩ ⟨Nat.zero_le _, Nat.zero_le _⟩ rfl rfl (Nat.le_of_ble_eq_true rfl) hl.1 (fun H locs hP hD hS => ?_)
      refine lv_istore_n (lv' := [(2, .int r9), (0, .ref (a 0)), (1, .int x1)]) hx hb dX12_either_18 rfl hl (by decide) rfl (fun ls hl => ?_)
      refine lv_iload_n hx hb dX12_either_19 rfl (lv_at hl 2 rfl) ?_
      refine lv_if_ne (tgt := 27) hx hb dX12_either_20 (by decide) (fun c11 => ?_) (fun c11 => ?_)
      · replace hf := ineg c11 hf
        refine lv_iconst (v := 1) hx hb dX12_either_27 (by decide) ?_
        refine lv_goto (tgt := 32) hx hb dX12_either_28 (by decide) ?_
        refine lv_istore_n (lv' := [(1, .int (1 : Int32)), (2, .int r9), (0, .ref (a 0))]) hx hb dX12_either_32 rfl hl (by decide) rfl (fun ls hl => ?_)
        refine lv_goto (tgt := 5) hx hb dX12_either_33 (by decide) ?_
        exact ih _ _ _ _ _ hf hP hD hS (lv_sub hl [2, 0] rfl)
      · replace hf := ipos c11 hf
        refine lv_iload_n hx hb dX12_either_23 rfl (lv_at hl 0 rfl) ?_
        refine lv_if_eq (tgt := 31) hx hb dX12_either_24 (by decide) (fun c12 => ?_) (fun c12 => ?_)
        · replace hf := ipos c12 hf
          refine lv_iconst (v := 0) hx hb dX12_either_31 (by decide) ?_
          refine lv_istore_n (lv' := [(1, .int (0 : Int32)), (2, .int r9), (0, .ref (a 0))]) hx hb dX12_either_32 rfl hl (by decide) rfl (fun ls hl => ?_)
          refine lv_goto (tgt := 5) hx hb dX12_either_33 (by decide) ?_
          exact ih _ _ _ _ _ hf hP hD hS (lv_sub hl [2, 0] rfl)
        · replace hf := ineg c12 hf
          refine lv_iconst (v := 1) hx hb dX12_either_27 (by decide) ?_
          refine lv_goto (tgt := 32) hx hb dX12_either_28 (by decide) ?_
          refine lv_istore_n (lv' := [(1, .int (1 : Int32)), (2, .int r9), (0, .ref (a 0))]) hx hb dX12_either_32 rfl hl (by decide) rfl (fun ls hl => ?_)
          refine lv_goto (tgt := 5) hx hb dX12_either_33 (by decide) ?_
          exact ih _ _ _ _ _ hf hP hD hS (lv_sub hl [2, 0] rfl)
set_option maxHeartbeats 4000000 in
set_option maxRecDepth 100000 in
theorem c_X12_either1 {l : Launch} {g : va_G} {ts : ClassId × ClassId × ClassId} {a : Nat → Nat} {σ : St} {r : Int32} {σ' : St} {Rf Rl : Nat} {Rf_X12_both Rl_X12_both : Nat} {rc_X12_both : St → Option (Int32 × St)} (hrc_X12_both : (Rf_X12_both ≤ Rf ∧ Rl_X12_both ≤ Rl) ∧ ∀ (σ : St) (r : Int32) (u : St), rc_X12_both σ = some (r, u) → ConI l g ts (WM ts a) yX12_both cX12_both 3 (some .int) (rk Rf_X12_both Rl_X12_both) σ [.ref (a 0)] r u) (hf : f_X12_either1 rc_X12_both σ = some (r, σ')) : ConI l g ts (WM ts a) yX12_either cX12_either 3 (some .int) (rk (Rf + 2) (Rl + 41)) σ [.ref (a 0)] r σ' := by
  refine ConI_mk .int rfl rfl rfl rfl (by decide) (Nat.le_of_ble_eq_true rfl) ?_
  intro p e s m below meth c A Q ls C hQ hP hD hS hl
  have C : FX p s m _ meth c RX12 cX12_either 3 g ts A := C
  have hx := C.1
  have hb := C.2.1
  have hown := C.2.2.2.1
  have hts := C.2.2.2.2.1
  have hl : lv_has ls 3 [(0, .ref (a 0))] := hl
  rw [f_X12_either1] at hf
  refine lv_aload_n hx hb dX12_either_0 rfl (lv_at hl 0 rfl) ?_
  obtain ⟨r2, σ3, h1, hf⟩ := bnd2_some hf
  refine vI [] C hP hD hS (hrc_X12_both.2 _ _ _  h1) mv_X12_both q_1287 rv_X12 dX12_either_1 ⟨by have hz := hrc_X12_both.1; show Rf_X12_both + 1 ≤ Rf + _; omega, by have hz := hrc_X12_both.1; show 8 + (3 + 11) + Rl_X12_both ≤ Rl + _; omega⟩ ⟨Nat.zero_le _, Nat.zero_le _⟩ rfl rfl (Nat.le_of_ble_eq_true rfl) hl.1 (fun H locs hP hD hS => ?_)
  refine lv_istore_n (lv' := [(1, .int r2), (0, .ref (a 0))]) hx hb dX12_either_4 rfl hl (by decide) rfl (fun ls hl => ?_)
  exact w_X12_either_b5 C hQ hrc_X12_both 256 _ _ _ _ _ hf hP hD hS (lv_sub hl [1, 0] rfl)
theorem dX12_both_0 : decode cX12_both 0 = .ok (.aload_n 0, 1) := by decide +kernel
theorem dX12_both_1 : decode cX12_both 1 = .ok (.invokevirtual 166, 3) := by decide +kernel
theorem dX12_both_4 : decode cX12_both 4 = .ok (.istore_n 1, 1) := by decide +kernel
theorem dX12_both_5 : decode cX12_both 5 = .ok (.aload_n 0, 1) := by decide +kernel
theorem dX12_both_6 : decode cX12_both 6 = .ok (.bipush 38, 2) := by decide +kernel
theorem dX12_both_8 : decode cX12_both 8 = .ok (.invokevirtual 163, 3) := by decide +kernel
theorem dX12_both_11 : decode cX12_both 11 = .ok (.ifCond .eq 25, 3) := by decide +kernel
theorem dX12_both_14 : decode cX12_both 14 = .ok (.aload_n 0, 1) := by decide +kernel
theorem dX12_both_15 : decode cX12_both 15 = .ok (.invokevirtual 166, 3) := by decide +kernel
theorem dX12_both_18 : decode cX12_both 18 = .ok (.istore_n 2, 1) := by decide +kernel
theorem dX12_both_19 : decode cX12_both 19 = .ok (.iload_n 1, 1) := by decide +kernel
theorem dX12_both_20 : decode cX12_both 20 = .ok (.ifCond .eq 11, 3) := by decide +kernel
theorem dX12_both_23 : decode cX12_both 23 = .ok (.iload_n 2, 1) := by decide +kernel
theorem dX12_both_24 : decode cX12_both 24 = .ok (.ifCond .eq 7, 3) := by decide +kernel
theorem dX12_both_27 : decode cX12_both 27 = .ok (.iconst 1, 1) := by decide +kernel
theorem dX12_both_28 : decode cX12_both 28 = .ok (.goto 4, 3) := by decide +kernel
theorem dX12_both_31 : decode cX12_both 31 = .ok (.iconst 0, 1) := by decide +kernel
theorem dX12_both_32 : decode cX12_both 32 = .ok (.istore_n 1, 1) := by decide +kernel
theorem dX12_both_33 : decode cX12_both 33 = .ok (.goto (-28), 3) := by decide +kernel
theorem dX12_both_36 : decode cX12_both 36 = .ok (.iload_n 1, 1) := by decide +kernel
theorem dX12_both_37 : decode cX12_both 37 = .ok (.ireturn, 1) := by decide +kernel
def f_X12_both_b5 (rc_X12_compared : St → Option (Int32 × St)) : Nat → St → Int32 → Option (Int32 × St)
  | 0, _, _ => none
  | n + 1, σ, x1 => bnd2 (f_X12_takes σ (38 : Int32)) (fun r5 σ6 => if r5 = 0 then (some (x1, σ6)) else (bnd2 (rc_X12_compared σ6) (fun r9 σ10 => if x1 = 0 then (f_X12_both_b5 rc_X12_compared n σ10 (0 : Int32)) else (if r9 = 0 then (f_X12_both_b5 rc_X12_compared n σ10 (0 : Int32)) else (f_X12_both_b5 rc_X12_compared n σ10 (1 : Int32))))))
def f_X12_both1 (rc_X12_compared : St → Option (Int32 × St)) (σ : St) : Option (Int32 × St) := bnd2 (rc_X12_compared σ) (fun r2 σ3 => f_X12_both_b5 rc_X12_compared 256 σ3 r2)
set_option maxHeartbeats 4000000 in
set_option maxRecDepth 100000 in
theorem w_X12_both_b5 {p : Program} {l : Launch} {e : Env} {s : State} {m : MethodId} {args : Array Value} {below : List Frame} {meth : Method} {c : Code} {g : va_G} {ts : ClassId × ClassId × ClassId} {A : Nat → Prop} {Q : State → Prop} {a : Nat → Nat} {r : Int32} {σ' : St} {Rf Rl : Nat} {Rf_X12_compared Rl_X12_compared : Nat} {rc_X12_compared : St → Option (Int32 × St)} (C : FX p s m args meth c RX12 cX12_both 3 g ts A) (hQ : RetI p l e (rk (Rf + 2) (Rl + 41)) s m args below meth c cX12_both g (WM ts a) A r σ' Q) (hrc_X12_compared : (Rf_X12_compared ≤ Rf ∧ Rl_X12_compared ≤ Rl) ∧ ∀ (σ : St) (r : Int32) (u : St), rc_X12_compared σ = some (r, u) → ConI l g ts (WM ts a) yX12_compared cX12_compared 4 (some .int) (rk Rf_X12_compared Rl_X12_compared) σ [.ref (a 0)] r u) : ∀ (n : Nat) (σ : St) (x1 : Int32) (H : Heap) (locs : List Loc) (ls : Array Slot), f_X12_both_b5 rc_X12_compared n σ x1 = some (r, σ') → va_P g classes (WM ts a σ) H → va_D A (WM ts a σ) → va_S A s.heap H locs → lv_has ls 3 [(0, .ref (a 0)), (1, .int x1)] → W p l e (rk (Rf + 2) (Rl + 41)) s m args below meth c H locs 0 0 Q (F0 m 5 ls []) := by
  have hx := C.1
  have hb := C.2.1
  have hown := C.2.2.2.1
  have hts := C.2.2.2.2.1
  intro n
  induction n with
  | zero =>
    intro σ x1 H locs ls hf
    cases hf
  | succ n ih =>
    intro σ x1 H locs ls hf hP hD hS hl
    rw [f_X12_both_b5] at hf
    refine lv_aload_n hx hb dX12_both_5 rfl (lv_at hl 0 rfl) ?_
    refine lv_bipush (v := 38) hx hb dX12_both_6 (by decide) ?_
    obtain ⟨r5, σ6, h4, hf⟩ := bnd2_some hf
    refine vI [] C hP hD hS (c_X12_takes h4) mv_X12_takes q_1315 rv_X12 dX12_both_8 ⟨by show 1 + 1 ≤ _ + _; omega, by show 8 + (2 + 11) + 20 ≤ _ + _; omega⟩ ⟨Nat.zero_le _, Nat.zero_le _⟩ rfl rfl (Nat.le_of_ble_eq_true rfl) hl.1 (fun H locs hP hD hS => ?_)
    refine lv_if_eq (tgt := 36) hx hb dX12_both_11 (by decide) (fun c7 => ?_) (fun c7 => ?_)
    · replace hf := ipos c7 hf
      refine lv_iload_n hx hb dX12_both_36 rfl (lv_at hl 1 rfl) ?_
      exact retI hQ hf dX12_both_37 hP hD hS
    · replace hf := ineg c7 hf
      refine lv_aload_n hx hb dX12_both_14 rfl (lv_at hl 0 rfl) ?_
      obtain ⟨r9, σ10, h8, hf⟩ := bnd2_some hf
      refine vI [] C hP hD hS (hrc_X12_compared.2 _ _ _  h8) mv_X12_compared q_1291 rv_X12 dX12_both_15 ⟨by have hz := hrc_X12_compared.1; show Rf_X12_compared + 1 ≤ Rf + _; omega, by have hz := hrc_X12_compared.1; show 8 + (4 + 11) + Rl_X12_compared ≤ Rl + _; omega⟩ ⟨Nat.zero_le _, Nat.zero_le _⟩ rfl rfl (Nat.le_of_ble_eq_true rfl) hl.1 (fun H locs hP hD hS => ?_)
      refine lv_istore_n (lv' := [(2, .int r9), (0, .ref (a 0)), (1, .int x1)]) hx hb dX12_both_18 rfl hl (by decide) rfl (fun ls hl => ?_)
      refine lv_iload_n hx hb dX12_both_19 rfl (lv_at hl 2 rfl) ?_
      refine lv_if_eq (tgt := 31) hx hb dX12_both_20 (by decide) (fun c11 => ?_) (fun c11 => ?_)
      · replace hf := ipos c11 hf
        refine lv_iconst (v := 0) hx hb dX12_both_31 (by decide) ?_
        refine lv_istore_n (lv' := [(1, .int (0 : Int32)), (2, .int r9), (0, .ref (a 0))]) hx hb dX12_both_32 rfl hl (by decide) rfl (fun ls hl => ?_)
        refine lv_goto (tgt := 5) hx hb dX12_both_33 (by decide) ?_
        exact ih _ _ _ _ _ hf hP hD hS (lv_sub hl [2, 0] rfl)
      · replace hf := ineg c11 hf
        refine lv_iload_n hx hb dX12_both_23 rfl (lv_at hl 0 rfl) ?_
        refine lv_if_eq (tgt := 31) hx hb dX12_both_24 (by decide) (fun c12 => ?_) (fun c12 => ?_)
        · replace hf := ipos c12 hf
          refine lv_iconst (v := 0) hx hb dX12_both_31 (by decide) ?_
          refine lv_istore_n (lv' := [(1, .int (0 : Int32)), (2, .int r9), (0, .ref (a 0))]) hx hb dX12_both_32 rfl hl (by decide) rfl (fun ls hl => ?_)
          refine lv_goto (tgt := 5) hx hb dX12_both_33 (by decide) ?_
          exact ih _ _ _ _ _ hf hP hD hS (lv_sub hl [2, 0] rfl)
        · replace hf := ineg c12 hf
          refine lv_iconst (v := 1) hx hb dX12_both_27 (by decide) ?_
          refine lv_goto (tgt := 32) hx hb dX12_both_28 (by decide) ?_
          refine lv_istore_n (lv' := [(1, .int (1 : Int32)), (2, .int r9), (0, .ref (a 0))]) hx hb dX12_both_32 rfl hl (by decide) rfl (fun ls hl => ?_)
          refine lv_goto (tgt := 5) hx hb dX12_both_33 (by decide) ?_
          exact ih _ _ _ _ _ hf hP hD hS (lv_sub hl [2, 0] rfl)
set_option maxHeartbeats 4000000 in
set_option maxRecDepth 100000 in
theorem c_X12_both1 {l : Launch} {g : va_G} {ts : ClassId × ClassId × ClassId} {a : Nat → Nat} {σ : St} {r : Int32} {σ' : St} {Rf Rl : Nat} {Rf_X12_compared Rl_X12_compared : Nat} {rc_X12_compared : St → Option (Int32 × St)} (hrc_X12_compared : (Rf_X12_compared ≤ Rf ∧ Rl_X12_compared ≤ Rl) ∧ ∀ (σ : St) (r : Int32) (u : St), rc_X12_compared σ = some (r, u) → ConI l g ts (WM ts a) yX12_compared cX12_compared 4 (some .int) (rk Rf_X12_compared Rl_X12_compared) σ [.ref (a 0)] r u) (hf : f_X12_both1 rc_X12_compared σ = some (r, σ')) : ConI l g ts (WM ts a) yX12_both cX12_both 3 (some .int) (rk (Rf + 2) (Rl + 41)) σ [.ref (a 0)] r σ' := by
  refine ConI_mk .int rfl rfl rfl rfl (by decide) (Nat.le_of_ble_eq_true rfl) ?_
  intro p e s m below meth c A Q ls C hQ hP hD hS hl
  have C : FX p s m _ meth c RX12 cX12_both 3 g ts A := C
  have hx := C.1
  have hb := C.2.1
  have hown := C.2.2.2.1
  have hts := C.2.2.2.2.1
  have hl : lv_has ls 3 [(0, .ref (a 0))] := hl
  rw [f_X12_both1] at hf
  refine lv_aload_n hx hb dX12_both_0 rfl (lv_at hl 0 rfl) ?_
  obtain ⟨r2, σ3, h1, hf⟩ := bnd2_some hf
  refine vI [] C hP hD hS (hrc_X12_compared.2 _ _ _  h1) mv_X12_compared q_1291 rv_X12 dX12_both_1 ⟨by have hz := hrc_X12_compared.1; show Rf_X12_compared + 1 ≤ Rf + _; omega, by have hz := hrc_X12_compared.1; show 8 + (4 + 11) + Rl_X12_compared ≤ Rl + _; omega⟩ ⟨Nat.zero_le _, Nat.zero_le _⟩ rfl rfl (Nat.le_of_ble_eq_true rfl) hl.1 (fun H locs hP hD hS => ?_)
  refine lv_istore_n (lv' := [(1, .int r2), (0, .ref (a 0))]) hx hb dX12_both_4 rfl hl (by decide) rfl (fun ls hl => ?_)
  exact w_X12_both_b5 C hQ hrc_X12_compared 256 _ _ _ _ _ hf hP hD hS (lv_sub hl [1, 0] rfl)
theorem dX12_compared_0 : decode cX12_compared 0 = .ok (.aload_n 0, 1) := by decide +kernel
theorem dX12_compared_1 : decode cX12_compared 1 = .ok (.invokevirtual 169, 3) := by decide +kernel
theorem dX12_compared_4 : decode cX12_compared 4 = .ok (.istore_n 1, 1) := by decide +kernel
theorem dX12_compared_5 : decode cX12_compared 5 = .ok (.aload_n 0, 1) := by decide +kernel
theorem dX12_compared_6 : decode cX12_compared 6 = .ok (.invokevirtual 156, 3) := by decide +kernel
theorem dX12_compared_9 : decode cX12_compared 9 = .ok (.istore_n 2, 1) := by decide +kernel
theorem dX12_compared_10 : decode cX12_compared 10 = .ok (.aload_n 0, 1) := by decide +kernel
theorem dX12_compared_11 : decode cX12_compared 11 = .ok (.getfield 153, 3) := by decide +kernel
theorem dX12_compared_14 : decode cX12_compared 14 = .ok (.ifCond .ge 21, 3) := by decide +kernel
theorem dX12_compared_17 : decode cX12_compared 17 = .ok (.iload_n 2, 1) := by decide +kernel
theorem dX12_compared_18 : decode cX12_compared 18 = .ok (.bipush 60, 2) := by decide +kernel
theorem dX12_compared_20 : decode cX12_compared 20 = .ok (.if_icmp .eq 17, 3) := by decide +kernel
theorem dX12_compared_23 : decode cX12_compared 23 = .ok (.iload_n 2, 1) := by decide +kernel
theorem dX12_compared_24 : decode cX12_compared 24 = .ok (.bipush 61, 2) := by decide +kernel
theorem dX12_compared_26 : decode cX12_compared 26 = .ok (.if_icmp .eq 11, 3) := by decide +kernel
theorem dX12_compared_29 : decode cX12_compared 29 = .ok (.iload_n 2, 1) := by decide +kernel
theorem dX12_compared_30 : decode cX12_compared 30 = .ok (.bipush 62, 2) := by decide +kernel
theorem dX12_compared_32 : decode cX12_compared 32 = .ok (.if_icmp .eq 5, 3) := by decide +kernel
theorem dX12_compared_35 : decode cX12_compared 35 = .ok (.iload_n 1, 1) := by decide +kernel
theorem dX12_compared_36 : decode cX12_compared 36 = .ok (.ireturn, 1) := by decide +kernel
theorem dX12_compared_37 : decode cX12_compared 37 = .ok (.aload_n 0, 1) := by decide +kernel
theorem dX12_compared_38 : decode cX12_compared 38 = .ok (.dup, 1) := by decide +kernel
theorem dX12_compared_39 : decode cX12_compared 39 = .ok (.getfield 144, 3) := by decide +kernel
theorem dX12_compared_42 : decode cX12_compared 42 = .ok (.iconst 1, 1) := by decide +kernel
theorem dX12_compared_43 : decode cX12_compared 43 = .ok (.iadd, 1) := by decide +kernel
theorem dX12_compared_44 : decode cX12_compared 44 = .ok (.putfield 144, 3) := by decide +kernel
theorem dX12_compared_47 : decode cX12_compared 47 = .ok (.aload_n 0, 1) := by decide +kernel
theorem dX12_compared_48 : decode cX12_compared 48 = .ok (.invokevirtual 169, 3) := by decide +kernel
theorem dX12_compared_51 : decode cX12_compared 51 = .ok (.istore_n 3, 1) := by decide +kernel
theorem dX12_compared_52 : decode cX12_compared 52 = .ok (.iload_n 2, 1) := by decide +kernel
theorem dX12_compared_53 : decode cX12_compared 53 = .ok (.bipush 60, 2) := by decide +kernel
theorem dX12_compared_55 : decode cX12_compared 55 = .ok (.if_icmp .ne 11, 3) := by decide +kernel
theorem dX12_compared_58 : decode cX12_compared 58 = .ok (.iload_n 1, 1) := by decide +kernel
theorem dX12_compared_59 : decode cX12_compared 59 = .ok (.iload_n 3, 1) := by decide +kernel
theorem dX12_compared_60 : decode cX12_compared 60 = .ok (.if_icmp .ge 29, 3) := by decide +kernel
theorem dX12_compared_63 : decode cX12_compared 63 = .ok (.goto 22, 3) := by decide +kernel
theorem dX12_compared_66 : decode cX12_compared 66 = .ok (.iload_n 2, 1) := by decide +kernel
theorem dX12_compared_67 : decode cX12_compared 67 = .ok (.bipush 61, 2) := by decide +kernel
theorem dX12_compared_69 : decode cX12_compared 69 = .ok (.if_icmp .ne 11, 3) := by decide +kernel
theorem dX12_compared_72 : decode cX12_compared 72 = .ok (.iload_n 1, 1) := by decide +kernel
theorem dX12_compared_73 : decode cX12_compared 73 = .ok (.iload_n 3, 1) := by decide +kernel
theorem dX12_compared_74 : decode cX12_compared 74 = .ok (.if_icmp .ne 15, 3) := by decide +kernel
theorem dX12_compared_77 : decode cX12_compared 77 = .ok (.goto 8, 3) := by decide +kernel
theorem dX12_compared_80 : decode cX12_compared 80 = .ok (.iload_n 1, 1) := by decide +kernel
theorem dX12_compared_81 : decode cX12_compared 81 = .ok (.iload_n 3, 1) := by decide +kernel
theorem dX12_compared_82 : decode cX12_compared 82 = .ok (.if_icmp .le 7, 3) := by decide +kernel
theorem dX12_compared_85 : decode cX12_compared 85 = .ok (.iconst 1, 1) := by decide +kernel
theorem dX12_compared_86 : decode cX12_compared 86 = .ok (.goto 4, 3) := by decide +kernel
theorem dX12_compared_89 : decode cX12_compared 89 = .ok (.iconst 0, 1) := by decide +kernel
theorem dX12_compared_90 : decode cX12_compared 90 = .ok (.ireturn, 1) := by decide +kernel
def f_X12_compared_b37 (rc_X12_sumsUp : St → Option (Int32 × St)) (σ : St) (x1 : Int32) (x2 : Int32) : Option (Int32 × St) := bnd2 (rc_X12_sumsUp (sI σ 614 0 ((σ.1 614 0) + (1 : Int32)))) (fun r12 σ13 => if x2 = (60 : Int32) then (if r12 ≤ x1 then (some ((0 : Int32), σ13)) else (some ((1 : Int32), σ13))) else (if x2 = (61 : Int32) then (if x1 = r12 then (some ((1 : Int32), σ13)) else (some ((0 : Int32), σ13))) else (if x1 ≤ r12 then (some ((0 : Int32), σ13)) else (some ((1 : Int32), σ13)))))
def f_X12_compared1 (rc_X12_sumsUp : St → Option (Int32 × St)) (σ : St) : Option (Int32 × St) := bnd2 (rc_X12_sumsUp σ) (fun r2 σ3 => bnd2 (f_X12_byteAt σ3) (fun r5 σ6 => if 0 ≤ σ6.1 616 0 then (some (r2, σ6)) else (if r5 = (60 : Int32) then (f_X12_compared_b37 rc_X12_sumsUp σ6 r2 r5) else (if r5 = (61 : Int32) then (f_X12_compared_b37 rc_X12_sumsUp σ6 r2 r5) else (if r5 = (62 : Int32) then (f_X12_compared_b37 rc_X12_sumsUp σ6 r2 r5) else (some (r2, σ6)))))))
set_option maxHeartbeats 4000000 in
set_option maxRecDepth 100000 in
theorem w_X12_compared_b37 {p : Program} {l : Launch} {e : Env} {s : State} {m : MethodId} {args : Array Value} {below : List Frame} {meth : Method} {c : Code} {g : va_G} {ts : ClassId × ClassId × ClassId} {A : Nat → Prop} {Q : State → Prop} {a : Nat → Nat} {r : Int32} {σ' : St} {Rf Rl : Nat} {Rf_X12_sumsUp Rl_X12_sumsUp : Nat} {rc_X12_sumsUp : St → Option (Int32 × St)} (C : FX p s m args meth c RX12 cX12_compared 4 g ts A) (hQ : RetI p l e (rk (Rf + 1) (Rl + 23)) s m args below meth c cX12_compared g (WM ts a) A r σ' Q) (hrc_X12_sumsUp : (Rf_X12_sumsUp ≤ Rf ∧ Rl_X12_sumsUp ≤ Rl) ∧ ∀ (σ : St) (r : Int32) (u : St), rc_X12_sumsUp σ = some (r, u) → ConI l g ts (WM ts a) yX12_sumsUp cX12_sumsUp 4 (some .int) (rk Rf_X12_sumsUp Rl_X12_sumsUp) σ [.ref (a 0)] r u) : ∀ (σ : St) (x1 : Int32) (x2 : Int32) (H : Heap) (locs : List Loc) (ls : Array Slot), f_X12_compared_b37 rc_X12_sumsUp σ x1 x2 = some (r, σ') → va_P g classes (WM ts a σ) H → va_D A (WM ts a σ) → va_S A s.heap H locs → lv_has ls 4 [(0, .ref (a 0)), (1, .int x1), (2, .int x2)] → W p l e (rk (Rf + 1) (Rl + 23)) s m args below meth c H locs 0 0 Q (F0 m 37 ls []) := by
  have hx := C.1
  have hb := C.2.1
  have hown := C.2.2.2.1
  have hts := C.2.2.2.2.1
  intro σ x1 x2 H locs ls hf hP hD hS hl
  rw [f_X12_compared_b37] at hf
  refine lv_aload_n hx hb dX12_compared_37 rfl (lv_at hl 0 rfl) ?_
  refine lv_dup hx hb dX12_compared_38 rfl ?_
  refine G_X12_at C hP q_1086 dX12_compared_39 ?_
  refine lv_iconst (v := 1) hx hb dX12_compared_42 (by decide) ?_
  refine lv_iadd hx hb dX12_compared_43 ?_
  refine S_X12_at C hP hD hS q_1086 dX12_compared_44 (fun H locs hP hD hS => ?_)
  refine lv_aload_n hx hb dX12_compared_47 rfl (lv_at hl 0 rfl) ?_
  obtain ⟨r12, σ13, h11, hf⟩ := bnd2_some hf
  refine vI [] C hP hD hS (hrc_X12_sumsUp.2 _ _ _  h11) mv_X12_sumsUp q_1295 rv_X12 dX12_compared_48 ⟨by have hz := hrc_X12_sumsUp.1; show Rf_X12_sumsUp + 1 ≤ Rf + _; omega, by have hz := hrc_X12_sumsUp.1; show 8 + (4 + 11) + Rl_X12_sumsUp ≤ Rl + _; omega⟩ ⟨Nat.zero_le _, Nat.zero_le _⟩ rfl rfl (Nat.le_of_ble_eq_true rfl) hl.1 (fun H locs hP hD hS => ?_)
  refine lv_istore_n (lv' := [(3, .int r12), (0, .ref (a 0)), (1, .int x1), (2, .int x2)]) hx hb dX12_compared_51 rfl hl (by decide) rfl (fun ls hl => ?_)
  refine lv_iload_n hx hb dX12_compared_52 rfl (lv_at hl 3 rfl) ?_
  refine lv_bipush (v := 60) hx hb dX12_compared_53 (by decide) ?_
  refine lv_icmp_ne (tgt := 66) hx hb dX12_compared_55 (by decide) (fun c14 => ?_) (fun c14 => ?_)
  · replace hf := ineg c14 hf
    refine lv_iload_n hx hb dX12_compared_66 rfl (lv_at hl 3 rfl) ?_
    refine lv_bipush (v := 61) hx hb dX12_compared_67 (by decide) ?_
    refine lv_icmp_ne (tgt := 80) hx hb dX12_compared_69 (by decide) (fun c15 => ?_) (fun c15 => ?_)
    · replace hf := ineg c15 hf
      refine lv_iload_n hx hb dX12_compared_80 rfl (lv_at hl 2 rfl) ?_
      refine lv_iload_n hx hb dX12_compared_81 rfl (lv_at hl 0 rfl) ?_
      refine lv_icmp_le (tgt := 89) hx hb dX12_compared_82 (by decide) (fun c16 => ?_) (fun c16 => ?_)
      · replace hf := ipos c16 hf
        refine lv_iconst (v := 0) hx hb dX12_compared_89 (by decide) ?_
        exact retI hQ hf dX12_compared_90 hP hD hS
      · replace hf := ineg c16 hf
        refine lv_iconst (v := 1) hx hb dX12_compared_85 (by decide) ?_
        refine lv_goto (tgt := 90) hx hb dX12_compared_86 (by decide) ?_
        exact retI hQ hf dX12_compared_90 hP hD hS
    · replace hf := ipos c15 hf
      refine lv_iload_n hx hb dX12_compared_72 rfl (lv_at hl 2 rfl) ?_
      refine lv_iload_n hx hb dX12_compared_73 rfl (lv_at hl 0 rfl) ?_
      refine lv_icmp_ne (tgt := 89) hx hb dX12_compared_74 (by decide) (fun c17 => ?_) (fun c17 => ?_)
      · replace hf := ineg c17 hf
        refine lv_iconst (v := 0) hx hb dX12_compared_89 (by decide) ?_
        exact retI hQ hf dX12_compared_90 hP hD hS
      · replace hf := ipos c17 hf
        refine lv_goto (tgt := 85) hx hb dX12_compared_77 (by decide) ?_
        refine lv_iconst (v := 1) hx hb dX12_compared_85 (by decide) ?_
        refine lv_goto (tgt := 90) hx hb dX12_compared_86 (by decide) ?_
        exact retI hQ hf dX12_compared_90 hP hD hS
  · replace hf := ipos c14 hf
    refine lv_iload_n hx hb dX12_compared_58 rfl (lv_at hl 2 rfl) ?_
    refine lv_iload_n hx hb dX12_compared_59 rfl (lv_at hl 0 rfl) ?_
    refine lv_icmp_ge (tgt := 89) hx hb dX12_compared_60 (by decide) (fun c18 => ?_) (fun c18 => ?_)
    · replace hf := ipos c18 hf
      refine lv_iconst (v := 0) hx hb dX12_compared_89 (by decide) ?_
      exact retI hQ hf dX12_compared_90 hP hD hS
    · replace hf := ineg c18 hf
      refine lv_goto (tgt := 85) hx hb dX12_compared_63 (by decide) ?_
      refine lv_iconst (v := 1) hx hb dX12_compared_85 (by decide) ?_
      refine lv_goto (tgt := 90) hx hb dX12_compared_86 (by decide) ?_
      exact retI hQ hf dX12_compared_90 hP hD hS
set_option maxHeartbeats 4000000 in
set_option maxRecDepth 100000 in
theorem c_X12_compared1 {l : Launch} {g : va_G} {ts : ClassId × ClassId × ClassId} {a : Nat → Nat} {σ : St} {r : Int32} {σ' : St} {Rf Rl : Nat} {Rf_X12_sumsUp Rl_X12_sumsUp : Nat} {rc_X12_sumsUp : St → Option (Int32 × St)} (hrc_X12_sumsUp : (Rf_X12_sumsUp ≤ Rf ∧ Rl_X12_sumsUp ≤ Rl) ∧ ∀ (σ : St) (r : Int32) (u : St), rc_X12_sumsUp σ = some (r, u) → ConI l g ts (WM ts a) yX12_sumsUp cX12_sumsUp 4 (some .int) (rk Rf_X12_sumsUp Rl_X12_sumsUp) σ [.ref (a 0)] r u) (hf : f_X12_compared1 rc_X12_sumsUp σ = some (r, σ')) : ConI l g ts (WM ts a) yX12_compared cX12_compared 4 (some .int) (rk (Rf + 1) (Rl + 23)) σ [.ref (a 0)] r σ' := by
  refine ConI_mk .int rfl rfl rfl rfl (by decide) (Nat.le_of_ble_eq_true rfl) ?_
  intro p e s m below meth c A Q ls C hQ hP hD hS hl
  have C : FX p s m _ meth c RX12 cX12_compared 4 g ts A := C
  have hx := C.1
  have hb := C.2.1
  have hown := C.2.2.2.1
  have hts := C.2.2.2.2.1
  have hl : lv_has ls 4 [(0, .ref (a 0))] := hl
  rw [f_X12_compared1] at hf
  refine lv_aload_n hx hb dX12_compared_0 rfl (lv_at hl 0 rfl) ?_
  obtain ⟨r2, σ3, h1, hf⟩ := bnd2_some hf
  refine vI [] C hP hD hS (hrc_X12_sumsUp.2 _ _ _  h1) mv_X12_sumsUp q_1295 rv_X12 dX12_compared_1 ⟨by have hz := hrc_X12_sumsUp.1; show Rf_X12_sumsUp + 1 ≤ Rf + _; omega, by have hz := hrc_X12_sumsUp.1; show 8 + (4 + 11) + Rl_X12_sumsUp ≤ Rl + _; omega⟩ ⟨Nat.zero_le _, Nat.zero_le _⟩ rfl rfl (Nat.le_of_ble_eq_true rfl) hl.1 (fun H locs hP hD hS => ?_)
  refine lv_istore_n (lv' := [(1, .int r2), (0, .ref (a 0))]) hx hb dX12_compared_4 rfl hl (by decide) rfl (fun ls hl => ?_)
  refine lv_aload_n hx hb dX12_compared_5 rfl (lv_at hl 1 rfl) ?_
  obtain ⟨r5, σ6, h4, hf⟩ := bnd2_some hf
  refine vI [] C hP hD hS (c_X12_byteAt h4) mv_X12_byteAt q_1307 rv_X12 dX12_compared_6 ⟨by show 0 + 1 ≤ _ + _; omega, by show 8 + (1 + 11) + 0 ≤ _ + _; omega⟩ ⟨Nat.zero_le _, Nat.zero_le _⟩ rfl rfl (Nat.le_of_ble_eq_true rfl) hl.1 (fun H locs hP hD hS => ?_)
  refine lv_istore_n (lv' := [(2, .int r5), (1, .int r2), (0, .ref (a 0))]) hx hb dX12_compared_9 rfl hl (by decide) rfl (fun ls hl => ?_)
  refine lv_aload_n hx hb dX12_compared_10 rfl (lv_at hl 2 rfl) ?_
  refine G_X12_fault C hP q_1088 dX12_compared_11 ?_
  refine lv_if_ge (tgt := 35) hx hb dX12_compared_14 (by decide) (fun c7 => ?_) (fun c7 => ?_)
  · replace hf := ipos c7 hf
    refine lv_iload_n hx hb dX12_compared_35 rfl (lv_at hl 1 rfl) ?_
    exact retI hQ hf dX12_compared_36 hP hD hS
  · replace hf := ineg c7 hf
    refine lv_iload_n hx hb dX12_compared_17 rfl (lv_at hl 0 rfl) ?_
    refine lv_bipush (v := 60) hx hb dX12_compared_18 (by decide) ?_
    refine lv_icmp_eq (tgt := 37) hx hb dX12_compared_20 (by decide) (fun c8 => ?_) (fun c8 => ?_)
    · replace hf := ipos c8 hf
      exact w_X12_compared_b37 C hQ hrc_X12_sumsUp _ _ _ _ _ _ hf hP hD hS (lv_sub hl [2, 1, 0] rfl)
    · replace hf := ineg c8 hf
      refine lv_iload_n hx hb dX12_compared_23 rfl (lv_at hl 0 rfl) ?_
      refine lv_bipush (v := 61) hx hb dX12_compared_24 (by decide) ?_
      refine lv_icmp_eq (tgt := 37) hx hb dX12_compared_26 (by decide) (fun c9 => ?_) (fun c9 => ?_)
      · replace hf := ipos c9 hf
        exact w_X12_compared_b37 C hQ hrc_X12_sumsUp _ _ _ _ _ _ hf hP hD hS (lv_sub hl [2, 1, 0] rfl)
      · replace hf := ineg c9 hf
        refine lv_iload_n hx hb dX12_compared_29 rfl (lv_at hl 0 rfl) ?_
        refine lv_bipush (v := 62) hx hb dX12_compared_30 (by decide) ?_
        refine lv_icmp_eq (tgt := 37) hx hb dX12_compared_32 (by decide) (fun c10 => ?_) (fun c10 => ?_)
        · replace hf := ipos c10 hf
          exact w_X12_compared_b37 C hQ hrc_X12_sumsUp _ _ _ _ _ _ hf hP hD hS (lv_sub hl [2, 1, 0] rfl)
        · replace hf := ineg c10 hf
          refine lv_iload_n hx hb dX12_compared_35 rfl (lv_at hl 1 rfl) ?_
          exact retI hQ hf dX12_compared_36 hP hD hS
theorem dX12_sumsUp_0 : decode cX12_sumsUp 0 = .ok (.aload_n 0, 1) := by decide +kernel
theorem dX12_sumsUp_1 : decode cX12_sumsUp 1 = .ok (.invokevirtual 172, 3) := by decide +kernel
theorem dX12_sumsUp_4 : decode cX12_sumsUp 4 = .ok (.istore_n 1, 1) := by decide +kernel
theorem dX12_sumsUp_5 : decode cX12_sumsUp 5 = .ok (.aload_n 0, 1) := by decide +kernel
theorem dX12_sumsUp_6 : decode cX12_sumsUp 6 = .ok (.getfield 153, 3) := by decide +kernel
theorem dX12_sumsUp_9 : decode cX12_sumsUp 9 = .ok (.ifCond .ge 68, 3) := by decide +kernel
theorem dX12_sumsUp_12 : decode cX12_sumsUp 12 = .ok (.aload_n 0, 1) := by decide +kernel
theorem dX12_sumsUp_13 : decode cX12_sumsUp 13 = .ok (.invokevirtual 156, 3) := by decide +kernel
theorem dX12_sumsUp_16 : decode cX12_sumsUp 16 = .ok (.bipush 43, 2) := by decide +kernel
theorem dX12_sumsUp_18 : decode cX12_sumsUp 18 = .ok (.if_icmp .eq 12, 3) := by decide +kernel
theorem dX12_sumsUp_21 : decode cX12_sumsUp 21 = .ok (.aload_n 0, 1) := by decide +kernel
theorem dX12_sumsUp_22 : decode cX12_sumsUp 22 = .ok (.invokevirtual 156, 3) := by decide +kernel
theorem dX12_sumsUp_25 : decode cX12_sumsUp 25 = .ok (.bipush 45, 2) := by decide +kernel
theorem dX12_sumsUp_27 : decode cX12_sumsUp 27 = .ok (.if_icmp .ne 50, 3) := by decide +kernel
theorem dX12_sumsUp_30 : decode cX12_sumsUp 30 = .ok (.aload_n 0, 1) := by decide +kernel
theorem dX12_sumsUp_31 : decode cX12_sumsUp 31 = .ok (.invokevirtual 156, 3) := by decide +kernel
theorem dX12_sumsUp_34 : decode cX12_sumsUp 34 = .ok (.bipush 43, 2) := by decide +kernel
theorem dX12_sumsUp_36 : decode cX12_sumsUp 36 = .ok (.if_icmp .ne 7, 3) := by decide +kernel
theorem dX12_sumsUp_39 : decode cX12_sumsUp 39 = .ok (.iconst 1, 1) := by decide +kernel
theorem dX12_sumsUp_40 : decode cX12_sumsUp 40 = .ok (.goto 4, 3) := by decide +kernel
theorem dX12_sumsUp_43 : decode cX12_sumsUp 43 = .ok (.iconst 0, 1) := by decide +kernel
theorem dX12_sumsUp_44 : decode cX12_sumsUp 44 = .ok (.istore_n 2, 1) := by decide +kernel
theorem dX12_sumsUp_45 : decode cX12_sumsUp 45 = .ok (.aload_n 0, 1) := by decide +kernel
theorem dX12_sumsUp_46 : decode cX12_sumsUp 46 = .ok (.dup, 1) := by decide +kernel
theorem dX12_sumsUp_47 : decode cX12_sumsUp 47 = .ok (.getfield 144, 3) := by decide +kernel
theorem dX12_sumsUp_50 : decode cX12_sumsUp 50 = .ok (.iconst 1, 1) := by decide +kernel
theorem dX12_sumsUp_51 : decode cX12_sumsUp 51 = .ok (.iadd, 1) := by decide +kernel
theorem dX12_sumsUp_52 : decode cX12_sumsUp 52 = .ok (.putfield 144, 3) := by decide +kernel
theorem dX12_sumsUp_55 : decode cX12_sumsUp 55 = .ok (.aload_n 0, 1) := by decide +kernel
theorem dX12_sumsUp_56 : decode cX12_sumsUp 56 = .ok (.invokevirtual 172, 3) := by decide +kernel
theorem dX12_sumsUp_59 : decode cX12_sumsUp 59 = .ok (.istore_n 3, 1) := by decide +kernel
theorem dX12_sumsUp_60 : decode cX12_sumsUp 60 = .ok (.iload_n 2, 1) := by decide +kernel
theorem dX12_sumsUp_61 : decode cX12_sumsUp 61 = .ok (.ifCond .eq 9, 3) := by decide +kernel
theorem dX12_sumsUp_64 : decode cX12_sumsUp 64 = .ok (.iload_n 1, 1) := by decide +kernel
theorem dX12_sumsUp_65 : decode cX12_sumsUp 65 = .ok (.iload_n 3, 1) := by decide +kernel
theorem dX12_sumsUp_66 : decode cX12_sumsUp 66 = .ok (.iadd, 1) := by decide +kernel
theorem dX12_sumsUp_67 : decode cX12_sumsUp 67 = .ok (.goto 6, 3) := by decide +kernel
theorem dX12_sumsUp_70 : decode cX12_sumsUp 70 = .ok (.iload_n 1, 1) := by decide +kernel
theorem dX12_sumsUp_71 : decode cX12_sumsUp 71 = .ok (.iload_n 3, 1) := by decide +kernel
theorem dX12_sumsUp_72 : decode cX12_sumsUp 72 = .ok (.isub, 1) := by decide +kernel
theorem dX12_sumsUp_73 : decode cX12_sumsUp 73 = .ok (.istore_n 1, 1) := by decide +kernel
theorem dX12_sumsUp_74 : decode cX12_sumsUp 74 = .ok (.goto (-69), 3) := by decide +kernel
theorem dX12_sumsUp_77 : decode cX12_sumsUp 77 = .ok (.iload_n 1, 1) := by decide +kernel
theorem dX12_sumsUp_78 : decode cX12_sumsUp 78 = .ok (.ireturn, 1) := by decide +kernel
def f_X12_sumsUp_b44 (rc_X12_product : St → Option (Int32 × St)) (k5 : St → Int32 → Option (Int32 × St)) (σ : St) (x1 : Int32) (s0 : Int32) : Option (Int32 × St) := bnd2 (rc_X12_product (sI σ 614 0 ((σ.1 614 0) + (1 : Int32)))) (fun r18 σ19 => if s0 = 0 then (bnd (x1 - r18) (fun v21 => k5 σ19 v21)) else (bnd (x1 + r18) (fun v22 => k5 σ19 v22)))
def f_X12_sumsUp_b30 (rc_X12_product : St → Option (Int32 × St)) (k5 : St → Int32 → Option (Int32 × St)) (σ : St) (x1 : Int32) : Option (Int32 × St) := bnd2 (f_X12_byteAt σ) (fun r14 σ15 => if r14 = (43 : Int32) then (f_X12_sumsUp_b44 rc_X12_product k5 σ15 x1 (1 : Int32)) else (f_X12_sumsUp_b44 rc_X12_product k5 σ15 x1 (0 : Int32)))
def f_X12_sumsUp_b5 (rc_X12_product : St → Option (Int32 × St)) : Nat → St → Int32 → Option (Int32 × St)
  | 0, _, _ => none
  | n + 1, σ, x1 => if 0 ≤ σ.1 616 0 then (some (x1, σ)) else (bnd2 (f_X12_byteAt σ) (fun r6 σ7 => if r6 = (43 : Int32) then (f_X12_sumsUp_b30 rc_X12_product (f_X12_sumsUp_b5 rc_X12_product n) σ7 x1) else (bnd2 (f_X12_byteAt σ7) (fun r10 σ11 => if r10 = (45 : Int32) then (f_X12_sumsUp_b30 rc_X12_product (f_X12_sumsUp_b5 rc_X12_product n) σ11 x1) else (some (x1, σ11))))))
def f_X12_sumsUp1 (rc_X12_product : St → Option (Int32 × St)) (σ : St) : Option (Int32 × St) := bnd2 (rc_X12_product σ) (fun r2 σ3 => f_X12_sumsUp_b5 rc_X12_product 256 σ3 r2)
set_option maxHeartbeats 4000000 in
set_option maxRecDepth 100000 in
theorem w_X12_sumsUp_b44 {p : Program} {l : Launch} {e : Env} {s : State} {m : MethodId} {args : Array Value} {below : List Frame} {meth : Method} {c : Code} {g : va_G} {ts : ClassId × ClassId × ClassId} {A : Nat → Prop} {Q : State → Prop} {a : Nat → Nat} {r : Int32} {σ' : St} {Rf Rl : Nat} {Rf_X12_product Rl_X12_product : Nat} {rc_X12_product : St → Option (Int32 × St)} {k5 : St → Int32 → Option (Int32 × St)} (C : FX p s m args meth c RX12 cX12_sumsUp 4 g ts A) (hQ : RetI p l e (rk (Rf + 1) (Rl + 23)) s m args below meth c cX12_sumsUp g (WM ts a) A r σ' Q) (hrc_X12_product : (Rf_X12_product ≤ Rf ∧ Rl_X12_product ≤ Rl) ∧ ∀ (σ : St) (r : Int32) (u : St), rc_X12_product σ = some (r, u) → ConI l g ts (WM ts a) yX12_product cX12_product 4 (some .int) (rk Rf_X12_product Rl_X12_product) σ [.ref (a 0)] r u) (hk5 : ∀ (σ : St) (x1 : Int32) (H : Heap) (locs : List Loc) (ls : Array Slot), k5 σ x1 = some (r, σ') → va_P g classes (WM ts a σ) H → va_D A (WM ts a σ) → va_S A s.heap H locs → lv_has ls 4 [(0, .ref (a 0)), (1, .int x1)] → W p l e (rk (Rf + 1) (Rl + 23)) s m args below meth c H locs 0 0 Q (F0 m 5 ls [])) : ∀ (σ : St) (x1 : Int32) (s0 : Int32) (H : Heap) (locs : List Loc) (ls : Array Slot), f_X12_sumsUp_b44 rc_X12_product k5 σ x1 s0 = some (r, σ') → va_P g classes (WM ts a σ) H → va_D A (WM ts a σ) → va_S A s.heap H locs → lv_has ls 4 [(0, .ref (a 0)), (1, .int x1)] → W p l e (rk (Rf + 1) (Rl + 23)) s m args below meth c H locs 0 0 Q (F0 m 44 ls [.int s0]) := by
  have hx := C.1
  have hb := C.2.1
  have hown := C.2.2.2.1
  have hts := C.2.2.2.2.1
  intro σ x1 s0 H locs ls hf hP hD hS hl
  rw [f_X12_sumsUp_b44] at hf
  refine lv_istore_n (lv' := [(2, .int s0), (0, .ref (a 0)), (1, .int x1)]) hx hb dX12_sumsUp_44 rfl hl (by decide) rfl (fun ls hl => ?_)
  refine lv_aload_n hx hb dX12_sumsUp_45 rfl (lv_at hl 1 rfl) ?_
  refine lv_dup hx hb dX12_sumsUp_46 rfl ?_
  refine G_X12_at C hP q_1086 dX12_sumsUp_47 ?_
  refine lv_iconst (v := 1) hx hb dX12_sumsUp_50 (by decide) ?_
  refine lv_iadd hx hb dX12_sumsUp_51 ?_
  refine S_X12_at C hP hD hS q_1086 dX12_sumsUp_52 (fun H locs hP hD hS => ?_)
  refine lv_aload_n hx hb dX12_sumsUp_55 rfl (lv_at hl 1 rfl) ?_
  obtain ⟨r18, σ19, h17, hf⟩ := bnd2_some hf
  refine vI [] C hP hD hS (hrc_X12_product.2 _ _ _  h17) mv_X12_product q_1299 rv_X12 dX12_sumsUp_56 ⟨by have hz := hrc_X12_product.1; show Rf_X12_product + 1 ≤ Rf + _; omega, by have hz := hrc_X12_product.1; show 8 + (4 + 11) + Rl_X12_product ≤ Rl + _; omega⟩ ⟨Nat.zero_le _, Nat.zero_le _⟩ rfl rfl (Nat.le_of_ble_eq_true rfl) hl.1 (fun H locs hP hD hS => ?_)
  refine lv_istore_n (lv' := [(3, .int r18), (2, .int s0), (0, .ref (a 0)), (1, .int x1)]) hx hb dX12_sumsUp_59 rfl hl (by decide) rfl (fun ls hl => ?_)
  refine lv_iload_n hx hb dX12_sumsUp_60 rfl (lv_at hl 1 rfl) ?_
  refine lv_if_eq (tgt := 70) hx hb dX12_sumsUp_61 (by decide) (fun c20 => ?_) (fun c20 => ?_)
  · replace hf := ipos c20 hf
    refine lv_iload_n hx hb dX12_sumsUp_70 rfl (lv_at hl 3 rfl) ?_
    refine lv_iload_n hx hb dX12_sumsUp_71 rfl (lv_at hl 0 rfl) ?_
    refine lv_isub hx hb dX12_sumsUp_72 ?_
    refine lv_topi (fun v21 ev21 => ?_)
    replace hf := bnd_at ev21 hf
    refine lv_istore_n (lv' := [(1, .int v21), (3, .int r18), (2, .int s0), (0, .ref (a 0))]) hx hb dX12_sumsUp_73 rfl hl (by decide) rfl (fun ls hl => ?_)
    refine lv_goto (tgt := 5) hx hb dX12_sumsUp_74 (by decide) ?_
    exact hk5 _ _ _ _ _ hf hP hD hS (lv_sub hl [3, 0] rfl)
  · replace hf := ineg c20 hf
    refine lv_iload_n hx hb dX12_sumsUp_64 rfl (lv_at hl 3 rfl) ?_
    refine lv_iload_n hx hb dX12_sumsUp_65 rfl (lv_at hl 0 rfl) ?_
    refine lv_iadd hx hb dX12_sumsUp_66 ?_
    refine lv_goto (tgt := 73) hx hb dX12_sumsUp_67 (by decide) ?_
    refine lv_topi (fun v22 ev22 => ?_)
    replace hf := bnd_at ev22 hf
    refine lv_istore_n (lv' := [(1, .int v22), (3, .int r18), (2, .int s0), (0, .ref (a 0))]) hx hb dX12_sumsUp_73 rfl hl (by decide) rfl (fun ls hl => ?_)
    refine lv_goto (tgt := 5) hx hb dX12_sumsUp_74 (by decide) ?_
    exact hk5 _ _ _ _ _ hf hP hD hS (lv_sub hl [3, 0] rfl)
set_option maxHeartbeats 4000000 in
set_option maxRecDepth 100000 in
theorem w_X12_sumsUp_b30 {p : Program} {l : Launch} {e : Env} {s : State} {m : MethodId} {args : Array Value} {below : List Frame} {meth : Method} {c : Code} {g : va_G} {ts : ClassId × ClassId × ClassId} {A : Nat → Prop} {Q : State → Prop} {a : Nat → Nat} {r : Int32} {σ' : St} {Rf Rl : Nat} {Rf_X12_product Rl_X12_product : Nat} {rc_X12_product : St → Option (Int32 × St)} {k5 : St → Int32 → Option (Int32 × St)} (C : FX p s m args meth c RX12 cX12_sumsUp 4 g ts A) (hQ : RetI p l e (rk (Rf + 1) (Rl + 23)) s m args below meth c cX12_sumsUp g (WM ts a) A r σ' Q) (hrc_X12_product : (Rf_X12_product ≤ Rf ∧ Rl_X12_product ≤ Rl) ∧ ∀ (σ : St) (r : Int32) (u : St), rc_X12_product σ = some (r, u) → ConI l g ts (WM ts a) yX12_product cX12_product 4 (some .int) (rk Rf_X12_product Rl_X12_product) σ [.ref (a 0)] r u) (hk5 : ∀ (σ : St) (x1 : Int32) (H : Heap) (locs : List Loc) (ls : Array Slot), k5 σ x1 = some (r, σ') → va_P g classes (WM ts a σ) H → va_D A (WM ts a σ) → va_S A s.heap H locs → lv_has ls 4 [(0, .ref (a 0)), (1, .int x1)] → W p l e (rk (Rf + 1) (Rl + 23)) s m args below meth c H locs 0 0 Q (F0 m 5 ls [])) : ∀ (σ : St) (x1 : Int32) (H : Heap) (locs : List Loc) (ls : Array Slot), f_X12_sumsUp_b30 rc_X12_product k5 σ x1 = some (r, σ') → va_P g classes (WM ts a σ) H → va_D A (WM ts a σ) → va_S A s.heap H locs → lv_has ls 4 [(0, .ref (a 0)), (1, .int x1)] → W p l e (rk (Rf + 1) (Rl + 23)) s m args below meth c H locs 0 0 Q (F0 m 30 ls []) := by
  have hx := C.1
  have hb := C.2.1
  have hown := C.2.2.2.1
  have hts := C.2.2.2.2.1
  intro σ x1 H locs ls hf hP hD hS hl
  rw [f_X12_sumsUp_b30] at hf
  refine lv_aload_n hx hb dX12_sumsUp_30 rfl (lv_at hl 0 rfl) ?_
  obtain ⟨r14, σ15, h13, hf⟩ := bnd2_some hf
  refine vI [] C hP hD hS (c_X12_byteAt h13) mv_X12_byteAt q_1307 rv_X12 dX12_sumsUp_31 ⟨by show 0 + 1 ≤ _ + _; omega, by show 8 + (1 + 11) + 0 ≤ _ + _; omega⟩ ⟨Nat.zero_le _, Nat.zero_le _⟩ rfl rfl (Nat.le_of_ble_eq_true rfl) hl.1 (fun H locs hP hD hS => ?_)
  refine lv_bipush (v := 43) hx hb dX12_sumsUp_34 (by decide) ?_
  refine lv_icmp_ne (tgt := 43) hx hb dX12_sumsUp_36 (by decide) (fun c16 => ?_) (fun c16 => ?_)
  · replace hf := ineg c16 hf
    refine lv_iconst (v := 0) hx hb dX12_sumsUp_43 (by decide) ?_
    exact w_X12_sumsUp_b44 C hQ hrc_X12_product hk5 _ _ _ _ _ _ hf hP hD hS (lv_sub hl [0, 1] rfl)
  · replace hf := ipos c16 hf
    refine lv_iconst (v := 1) hx hb dX12_sumsUp_39 (by decide) ?_
    refine lv_goto (tgt := 44) hx hb dX12_sumsUp_40 (by decide) ?_
    exact w_X12_sumsUp_b44 C hQ hrc_X12_product hk5 _ _ _ _ _ _ hf hP hD hS (lv_sub hl [0, 1] rfl)
set_option maxHeartbeats 4000000 in
set_option maxRecDepth 100000 in
theorem w_X12_sumsUp_b5 {p : Program} {l : Launch} {e : Env} {s : State} {m : MethodId} {args : Array Value} {below : List Frame} {meth : Method} {c : Code} {g : va_G} {ts : ClassId × ClassId × ClassId} {A : Nat → Prop} {Q : State → Prop} {a : Nat → Nat} {r : Int32} {σ' : St} {Rf Rl : Nat} {Rf_X12_product Rl_X12_product : Nat} {rc_X12_product : St → Option (Int32 × St)} (C : FX p s m args meth c RX12 cX12_sumsUp 4 g ts A) (hQ : RetI p l e (rk (Rf + 1) (Rl + 23)) s m args below meth c cX12_sumsUp g (WM ts a) A r σ' Q) (hrc_X12_product : (Rf_X12_product ≤ Rf ∧ Rl_X12_product ≤ Rl) ∧ ∀ (σ : St) (r : Int32) (u : St), rc_X12_product σ = some (r, u) → ConI l g ts (WM ts a) yX12_product cX12_product 4 (some .int) (rk Rf_X12_product Rl_X12_product) σ [.ref (a 0)] r u) : ∀ (n : Nat) (σ : St) (x1 : Int32) (H : Heap) (locs : List Loc) (ls : Array Slot), f_X12_sumsUp_b5 rc_X12_product n σ x1 = some (r, σ') → va_P g classes (WM ts a σ) H → va_D A (WM ts a σ) → va_S A s.heap H locs → lv_has ls 4 [(0, .ref (a 0)), (1, .int x1)] → W p l e (rk (Rf + 1) (Rl + 23)) s m args below meth c H locs 0 0 Q (F0 m 5 ls []) := by
  have hx := C.1
  have hb := C.2.1
  have hown := C.2.2.2.1
  have hts := C.2.2.2.2.1
  intro n
  induction n with
  | zero =>
    intro σ x1 H locs ls hf
    cases hf
  | succ n ih =>
    intro σ x1 H locs ls hf hP hD hS hl
    rw [f_X12_sumsUp_b5] at hf
    refine lv_aload_n hx hb dX12_sumsUp_5 rfl (lv_at hl 0 rfl) ?_
    refine G_X12_fault C hP q_1088 dX12_sumsUp_6 ?_
    refine lv_if_ge (tgt := 77) hx hb dX12_sumsUp_9 (by decide) (fun c4 => ?_) (fun c4 => ?_)
    · replace hf := ipos c4 hf
      refine lv_iload_n hx hb dX12_sumsUp_77 rfl (lv_at hl 1 rfl) ?_
      exact retI hQ hf dX12_sumsUp_78 hP hD hS
    · replace hf := ineg c4 hf
      refine lv_aload_n hx hb dX12_sumsUp_12 rfl (lv_at hl 0 rfl) ?_
      obtain ⟨r6, σ7, h5, hf⟩ := bnd2_some hf
      refine vI [] C hP hD hS (c_X12_byteAt h5) mv_X12_byteAt q_1307 rv_X12 dX12_sumsUp_13 ⟨by show 0 + 1 ≤ _ + _; omega, by show 8 + (1 + 11) + 0 ≤ _ + _; omega⟩ ⟨Nat.zero_le _, Nat.zero_le _⟩ rfl rfl (Nat.le_of_ble_eq_true rfl) hl.1 (fun H locs hP hD hS => ?_)
      refine lv_bipush (v := 43) hx hb dX12_sumsUp_16 (by decide) ?_
      refine lv_icmp_eq (tgt := 30) hx hb dX12_sumsUp_18 (by decide) (fun c8 => ?_) (fun c8 => ?_)
      · replace hf := ipos c8 hf
        exact w_X12_sumsUp_b30 C hQ hrc_X12_product ih _ _ _ _ _ hf hP hD hS (lv_sub hl [0, 1] rfl)
      · replace hf := ineg c8 hf
        refine lv_aload_n hx hb dX12_sumsUp_21 rfl (lv_at hl 0 rfl) ?_
        obtain ⟨r10, σ11, h9, hf⟩ := bnd2_some hf
        refine vI [] C hP hD hS (c_X12_byteAt h9) mv_X12_byteAt q_1307 rv_X12 dX12_sumsUp_22 ⟨by show 0 + 1 ≤ _ + _; omega, by show 8 + (1 + 11) + 0 ≤ _ + _; omega⟩ ⟨Nat.zero_le _, Nat.zero_le _⟩ rfl rfl (Nat.le_of_ble_eq_true rfl) hl.1 (fun H locs hP hD hS => ?_)
        refine lv_bipush (v := 45) hx hb dX12_sumsUp_25 (by decide) ?_
        refine lv_icmp_ne (tgt := 77) hx hb dX12_sumsUp_27 (by decide) (fun c12 => ?_) (fun c12 => ?_)
        · replace hf := ineg c12 hf
          refine lv_iload_n hx hb dX12_sumsUp_77 rfl (lv_at hl 1 rfl) ?_
          exact retI hQ hf dX12_sumsUp_78 hP hD hS
        · replace hf := ipos c12 hf
          exact w_X12_sumsUp_b30 C hQ hrc_X12_product ih _ _ _ _ _ hf hP hD hS (lv_sub hl [0, 1] rfl)
set_option maxHeartbeats 4000000 in
set_option maxRecDepth 100000 in
theorem c_X12_sumsUp1 {l : Launch} {g : va_G} {ts : ClassId × ClassId × ClassId} {a : Nat → Nat} {σ : St} {r : Int32} {σ' : St} {Rf Rl : Nat} {Rf_X12_product Rl_X12_product : Nat} {rc_X12_product : St → Option (Int32 × St)} (hrc_X12_product : (Rf_X12_product ≤ Rf ∧ Rl_X12_product ≤ Rl) ∧ ∀ (σ : St) (r : Int32) (u : St), rc_X12_product σ = some (r, u) → ConI l g ts (WM ts a) yX12_product cX12_product 4 (some .int) (rk Rf_X12_product Rl_X12_product) σ [.ref (a 0)] r u) (hf : f_X12_sumsUp1 rc_X12_product σ = some (r, σ')) : ConI l g ts (WM ts a) yX12_sumsUp cX12_sumsUp 4 (some .int) (rk (Rf + 1) (Rl + 23)) σ [.ref (a 0)] r σ' := by
  refine ConI_mk .int rfl rfl rfl rfl (by decide) (Nat.le_of_ble_eq_true rfl) ?_
  intro p e s m below meth c A Q ls C hQ hP hD hS hl
  have C : FX p s m _ meth c RX12 cX12_sumsUp 4 g ts A := C
  have hx := C.1
  have hb := C.2.1
  have hown := C.2.2.2.1
  have hts := C.2.2.2.2.1
  have hl : lv_has ls 4 [(0, .ref (a 0))] := hl
  rw [f_X12_sumsUp1] at hf
  refine lv_aload_n hx hb dX12_sumsUp_0 rfl (lv_at hl 0 rfl) ?_
  obtain ⟨r2, σ3, h1, hf⟩ := bnd2_some hf
  refine vI [] C hP hD hS (hrc_X12_product.2 _ _ _  h1) mv_X12_product q_1299 rv_X12 dX12_sumsUp_1 ⟨by have hz := hrc_X12_product.1; show Rf_X12_product + 1 ≤ Rf + _; omega, by have hz := hrc_X12_product.1; show 8 + (4 + 11) + Rl_X12_product ≤ Rl + _; omega⟩ ⟨Nat.zero_le _, Nat.zero_le _⟩ rfl rfl (Nat.le_of_ble_eq_true rfl) hl.1 (fun H locs hP hD hS => ?_)
  refine lv_istore_n (lv' := [(1, .int r2), (0, .ref (a 0))]) hx hb dX12_sumsUp_4 rfl hl (by decide) rfl (fun ls hl => ?_)
  exact w_X12_sumsUp_b5 C hQ hrc_X12_product 256 _ _ _ _ _ hf hP hD hS (lv_sub hl [1, 0] rfl)
theorem dX12_product_0 : decode cX12_product 0 = .ok (.aload_n 0, 1) := by decide +kernel
theorem dX12_product_1 : decode cX12_product 1 = .ok (.invokevirtual 175, 3) := by decide +kernel
theorem dX12_product_4 : decode cX12_product 4 = .ok (.istore_n 1, 1) := by decide +kernel
theorem dX12_product_5 : decode cX12_product 5 = .ok (.aload_n 0, 1) := by decide +kernel
theorem dX12_product_6 : decode cX12_product 6 = .ok (.invokevirtual 156, 3) := by decide +kernel
theorem dX12_product_9 : decode cX12_product 9 = .ok (.istore_n 2, 1) := by decide +kernel
theorem dX12_product_10 : decode cX12_product 10 = .ok (.aload_n 0, 1) := by decide +kernel
theorem dX12_product_11 : decode cX12_product 11 = .ok (.getfield 153, 3) := by decide +kernel
theorem dX12_product_14 : decode cX12_product 14 = .ok (.ifCond .ge 80, 3) := by decide +kernel
theorem dX12_product_17 : decode cX12_product 17 = .ok (.iload_n 2, 1) := by decide +kernel
theorem dX12_product_18 : decode cX12_product 18 = .ok (.bipush 42, 2) := by decide +kernel
theorem dX12_product_20 : decode cX12_product 20 = .ok (.if_icmp .eq 15, 3) := by decide +kernel
theorem dX12_product_23 : decode cX12_product 23 = .ok (.iload_n 2, 1) := by decide +kernel
theorem dX12_product_24 : decode cX12_product 24 = .ok (.bipush 47, 2) := by decide +kernel
theorem dX12_product_26 : decode cX12_product 26 = .ok (.if_icmp .eq 9, 3) := by decide +kernel
theorem dX12_product_29 : decode cX12_product 29 = .ok (.iload_n 2, 1) := by decide +kernel
theorem dX12_product_30 : decode cX12_product 30 = .ok (.bipush 37, 2) := by decide +kernel
theorem dX12_product_32 : decode cX12_product 32 = .ok (.if_icmp .ne 62, 3) := by decide +kernel
theorem dX12_product_35 : decode cX12_product 35 = .ok (.aload_n 0, 1) := by decide +kernel
theorem dX12_product_36 : decode cX12_product 36 = .ok (.dup, 1) := by decide +kernel
theorem dX12_product_37 : decode cX12_product 37 = .ok (.getfield 144, 3) := by decide +kernel
theorem dX12_product_40 : decode cX12_product 40 = .ok (.iconst 1, 1) := by decide +kernel
theorem dX12_product_41 : decode cX12_product 41 = .ok (.iadd, 1) := by decide +kernel
theorem dX12_product_42 : decode cX12_product 42 = .ok (.putfield 144, 3) := by decide +kernel
theorem dX12_product_45 : decode cX12_product 45 = .ok (.aload_n 0, 1) := by decide +kernel
theorem dX12_product_46 : decode cX12_product 46 = .ok (.invokevirtual 175, 3) := by decide +kernel
theorem dX12_product_49 : decode cX12_product 49 = .ok (.istore_n 3, 1) := by decide +kernel
theorem dX12_product_50 : decode cX12_product 50 = .ok (.iload_n 2, 1) := by decide +kernel
theorem dX12_product_51 : decode cX12_product 51 = .ok (.bipush 42, 2) := by decide +kernel
theorem dX12_product_53 : decode cX12_product 53 = .ok (.if_icmp .ne 9, 3) := by decide +kernel
theorem dX12_product_56 : decode cX12_product 56 = .ok (.iload_n 1, 1) := by decide +kernel
theorem dX12_product_57 : decode cX12_product 57 = .ok (.iload_n 3, 1) := by decide +kernel
theorem dX12_product_58 : decode cX12_product 58 = .ok (.imul, 1) := by decide +kernel
theorem dX12_product_59 : decode cX12_product 59 = .ok (.goto 26, 3) := by decide +kernel
theorem dX12_product_62 : decode cX12_product 62 = .ok (.iload_n 3, 1) := by decide +kernel
theorem dX12_product_63 : decode cX12_product 63 = .ok (.ifCond .ne 7, 3) := by decide +kernel
theorem dX12_product_66 : decode cX12_product 66 = .ok (.iconst 0, 1) := by decide +kernel
theorem dX12_product_67 : decode cX12_product 67 = .ok (.goto 18, 3) := by decide +kernel
theorem dX12_product_70 : decode cX12_product 70 = .ok (.iload_n 2, 1) := by decide +kernel
theorem dX12_product_71 : decode cX12_product 71 = .ok (.bipush 47, 2) := by decide +kernel
theorem dX12_product_73 : decode cX12_product 73 = .ok (.if_icmp .ne 9, 3) := by decide +kernel
theorem dX12_product_76 : decode cX12_product 76 = .ok (.iload_n 1, 1) := by decide +kernel
theorem dX12_product_77 : decode cX12_product 77 = .ok (.iload_n 3, 1) := by decide +kernel
theorem dX12_product_78 : decode cX12_product 78 = .ok (.idiv, 1) := by decide +kernel
theorem dX12_product_79 : decode cX12_product 79 = .ok (.goto 6, 3) := by decide +kernel
theorem dX12_product_82 : decode cX12_product 82 = .ok (.iload_n 1, 1) := by decide +kernel
theorem dX12_product_83 : decode cX12_product 83 = .ok (.iload_n 3, 1) := by decide +kernel
theorem dX12_product_84 : decode cX12_product 84 = .ok (.irem, 1) := by decide +kernel
theorem dX12_product_85 : decode cX12_product 85 = .ok (.istore_n 1, 1) := by decide +kernel
theorem dX12_product_86 : decode cX12_product 86 = .ok (.aload_n 0, 1) := by decide +kernel
theorem dX12_product_87 : decode cX12_product 87 = .ok (.invokevirtual 156, 3) := by decide +kernel
theorem dX12_product_90 : decode cX12_product 90 = .ok (.istore_n 2, 1) := by decide +kernel
theorem dX12_product_91 : decode cX12_product 91 = .ok (.goto (-81), 3) := by decide +kernel
theorem dX12_product_94 : decode cX12_product 94 = .ok (.iload_n 1, 1) := by decide +kernel
theorem dX12_product_95 : decode cX12_product 95 = .ok (.ireturn, 1) := by decide +kernel
def f_X12_product_b85 (rc_X12_one : St → Option (Int32 × St)) (k10 : St → Int32 → Int32 → Option (Int32 × St)) (σ : St) (s0 : Int32) : Option (Int32 × St) := bnd2 (f_X12_byteAt σ) (fun r20 σ21 => k10 σ21 s0 r20)
def f_X12_product_b35 (rc_X12_one : St → Option (Int32 × St)) (k10 : St → Int32 → Int32 → Option (Int32 × St)) (σ : St) (x1 : Int32) (x2 : Int32) : Option (Int32 × St) := bnd2 (rc_X12_one (sI σ 614 0 ((σ.1 614 0) + (1 : Int32)))) (fun r12 σ13 => if x2 = (42 : Int32) then (f_X12_product_b85 rc_X12_one k10 σ13 (x1 * r12)) else (if r12 = 0 then (f_X12_product_b85 rc_X12_one k10 σ13 (0 : Int32)) else (if x2 = (47 : Int32) then (chk (r12 = 0) (f_X12_product_b85 rc_X12_one k10 σ13 (x1 / r12))) else (chk (r12 = 0) (f_X12_product_b85 rc_X12_one k10 σ13 (x1 - x1 / r12 * r12))))))
def f_X12_product_b10 (rc_X12_one : St → Option (Int32 × St)) : Nat → St → Int32 → Int32 → Option (Int32 × St)
  | 0, _, _, _ => none
  | n + 1, σ, x1, x2 => if 0 ≤ σ.1 616 0 then (some (x1, σ)) else (if x2 = (42 : Int32) then (f_X12_product_b35 rc_X12_one (f_X12_product_b10 rc_X12_one n) σ x1 x2) else (if x2 = (47 : Int32) then (f_X12_product_b35 rc_X12_one (f_X12_product_b10 rc_X12_one n) σ x1 x2) else (if x2 = (37 : Int32) then (f_X12_product_b35 rc_X12_one (f_X12_product_b10 rc_X12_one n) σ x1 x2) else (some (x1, σ)))))
def f_X12_product1 (rc_X12_one : St → Option (Int32 × St)) (σ : St) : Option (Int32 × St) := bnd2 (rc_X12_one σ) (fun r2 σ3 => bnd2 (f_X12_byteAt σ3) (fun r5 σ6 => f_X12_product_b10 rc_X12_one 256 σ6 r2 r5))
set_option maxHeartbeats 4000000 in
set_option maxRecDepth 100000 in
theorem w_X12_product_b85 {p : Program} {l : Launch} {e : Env} {s : State} {m : MethodId} {args : Array Value} {below : List Frame} {meth : Method} {c : Code} {g : va_G} {ts : ClassId × ClassId × ClassId} {A : Nat → Prop} {Q : State → Prop} {a : Nat → Nat} {r : Int32} {σ' : St} {Rf Rl : Nat} {Rf_X12_one Rl_X12_one : Nat} {rc_X12_one : St → Option (Int32 × St)} {k10 : St → Int32 → Int32 → Option (Int32 × St)} (C : FX p s m args meth c RX12 cX12_product 4 g ts A) (hQ : RetI p l e (rk (Rf + 1) (Rl + 24)) s m args below meth c cX12_product g (WM ts a) A r σ' Q) (hrc_X12_one : (Rf_X12_one ≤ Rf ∧ Rl_X12_one ≤ Rl) ∧ ∀ (σ : St) (r : Int32) (u : St), rc_X12_one σ = some (r, u) → ConI l g ts (WM ts a) yX12_one cX12_one 5 (some .int) (rk Rf_X12_one Rl_X12_one) σ [.ref (a 0)] r u) (hk10 : ∀ (σ : St) (x1 : Int32) (x2 : Int32) (H : Heap) (locs : List Loc) (ls : Array Slot), k10 σ x1 x2 = some (r, σ') → va_P g classes (WM ts a σ) H → va_D A (WM ts a σ) → va_S A s.heap H locs → lv_has ls 4 [(0, .ref (a 0)), (1, .int x1), (2, .int x2)] → W p l e (rk (Rf + 1) (Rl + 24)) s m args below meth c H locs 0 0 Q (F0 m 10 ls [])) : ∀ (σ : St) (s0 : Int32) (H : Heap) (locs : List Loc) (ls : Array Slot), f_X12_product_b85 rc_X12_one k10 σ s0 = some (r, σ') → va_P g classes (WM ts a σ) H → va_D A (WM ts a σ) → va_S A s.heap H locs → lv_has ls 4 [(0, .ref (a 0))] → W p l e (rk (Rf + 1) (Rl + 24)) s m args below meth c H locs 0 0 Q (F0 m 85 ls [.int s0]) := by
  have hx := C.1
  have hb := C.2.1
  have hown := C.2.2.2.1
  have hts := C.2.2.2.2.1
  intro σ s0 H locs ls hf hP hD hS hl
  rw [f_X12_product_b85] at hf
  refine lv_istore_n (lv' := [(1, .int s0), (0, .ref (a 0))]) hx hb dX12_product_85 rfl hl (by decide) rfl (fun ls hl => ?_)
  refine lv_aload_n hx hb dX12_product_86 rfl (lv_at hl 1 rfl) ?_
  obtain ⟨r20, σ21, h19, hf⟩ := bnd2_some hf
  refine vI [] C hP hD hS (c_X12_byteAt h19) mv_X12_byteAt q_1307 rv_X12 dX12_product_87 ⟨by show 0 + 1 ≤ _ + _; omega, by show 8 + (1 + 11) + 0 ≤ _ + _; omega⟩ ⟨Nat.zero_le _, Nat.zero_le _⟩ rfl rfl (Nat.le_of_ble_eq_true rfl) hl.1 (fun H locs hP hD hS => ?_)
  refine lv_istore_n (lv' := [(2, .int r20), (1, .int s0), (0, .ref (a 0))]) hx hb dX12_product_90 rfl hl (by decide) rfl (fun ls hl => ?_)
  refine lv_goto (tgt := 10) hx hb dX12_product_91 (by decide) ?_
  exact hk10 _ _ _ _ _ _ hf hP hD hS (lv_sub hl [2, 1, 0] rfl)
set_option maxHeartbeats 4000000 in
set_option maxRecDepth 100000 in
theorem w_X12_product_b35 {p : Program} {l : Launch} {e : Env} {s : State} {m : MethodId} {args : Array Value} {below : List Frame} {meth : Method} {c : Code} {g : va_G} {ts : ClassId × ClassId × ClassId} {A : Nat → Prop} {Q : State → Prop} {a : Nat → Nat} {r : Int32} {σ' : St} {Rf Rl : Nat} {Rf_X12_one Rl_X12_one : Nat} {rc_X12_one : St → Option (Int32 × St)} {k10 : St → Int32 → Int32 → Option (Int32 × St)} (C : FX p s m args meth c RX12 cX12_product 4 g ts A) (hQ : RetI p l e (rk (Rf + 1) (Rl + 24)) s m args below meth c cX12_product g (WM ts a) A r σ' Q) (hrc_X12_one : (Rf_X12_one ≤ Rf ∧ Rl_X12_one ≤ Rl) ∧ ∀ (σ : St) (r : Int32) (u : St), rc_X12_one σ = some (r, u) → ConI l g ts (WM ts a) yX12_one cX12_one 5 (some .int) (rk Rf_X12_one Rl_X12_one) σ [.ref (a 0)] r u) (hk10 : ∀ (σ : St) (x1 : Int32) (x2 : Int32) (H : Heap) (locs : List Loc) (ls : Array Slot), k10 σ x1 x2 = some (r, σ') → va_P g classes (WM ts a σ) H → va_D A (WM ts a σ) → va_S A s.heap H locs → lv_has ls 4 [(0, .ref (a 0)), (1, .int x1), (2, .int x2)] → W p l e (rk (Rf + 1) (Rl + 24)) s m args below meth c H locs 0 0 Q (F0 m 10 ls [])) : ∀ (σ : St) (x1 : Int32) (x2 : Int32) (H : Heap) (locs : List Loc) (ls : Array Slot), f_X12_product_b35 rc_X12_one k10 σ x1 x2 = some (r, σ') → va_P g classes (WM ts a σ) H → va_D A (WM ts a σ) → va_S A s.heap H locs → lv_has ls 4 [(0, .ref (a 0)), (1, .int x1), (2, .int x2)] → W p l e (rk (Rf + 1) (Rl + 24)) s m args below meth c H locs 0 0 Q (F0 m 35 ls []) := by
  have hx := C.1
  have hb := C.2.1
  have hown := C.2.2.2.1
  have hts := C.2.2.2.2.1
  intro σ x1 x2 H locs ls hf hP hD hS hl
  rw [f_X12_product_b35] at hf
  refine lv_aload_n hx hb dX12_product_35 rfl (lv_at hl 0 rfl) ?_
  refine lv_dup hx hb dX12_product_36 rfl ?_
  refine G_X12_at C hP q_1086 dX12_product_37 ?_
  refine lv_iconst (v := 1) hx hb dX12_product_40 (by decide) ?_
  refine lv_iadd hx hb dX12_product_41 ?_
  refine S_X12_at C hP hD hS q_1086 dX12_product_42 (fun H locs hP hD hS => ?_)
  refine lv_aload_n hx hb dX12_product_45 rfl (lv_at hl 0 rfl) ?_
  obtain ⟨r12, σ13, h11, hf⟩ := bnd2_some hf
  refine vI [] C hP hD hS (hrc_X12_one.2 _ _ _  h11) mv_X12_one q_1303 rv_X12 dX12_product_46 ⟨by have hz := hrc_X12_one.1; show Rf_X12_one + 1 ≤ Rf + _; omega, by have hz := hrc_X12_one.1; show 8 + (5 + 11) + Rl_X12_one ≤ Rl + _; omega⟩ ⟨Nat.zero_le _, Nat.zero_le _⟩ rfl rfl (Nat.le_of_ble_eq_true rfl) hl.1 (fun H locs hP hD hS => ?_)
  refine lv_istore_n (lv' := [(3, .int r12), (0, .ref (a 0)), (1, .int x1), (2, .int x2)]) hx hb dX12_product_49 rfl hl (by decide) rfl (fun ls hl => ?_)
  refine lv_iload_n hx hb dX12_product_50 rfl (lv_at hl 3 rfl) ?_
  refine lv_bipush (v := 42) hx hb dX12_product_51 (by decide) ?_
  refine lv_icmp_ne (tgt := 62) hx hb dX12_product_53 (by decide) (fun c14 => ?_) (fun c14 => ?_)
  · replace hf := ineg c14 hf
    refine lv_iload_n hx hb dX12_product_62 rfl (lv_at hl 0 rfl) ?_
    refine lv_if_ne (tgt := 70) hx hb dX12_product_63 (by decide) (fun c15 => ?_) (fun c15 => ?_)
    · replace hf := ineg c15 hf
      refine lv_iload_n hx hb dX12_product_70 rfl (lv_at hl 3 rfl) ?_
      refine lv_bipush (v := 47) hx hb dX12_product_71 (by decide) ?_
      refine lv_icmp_ne (tgt := 82) hx hb dX12_product_73 (by decide) (fun c16 => ?_) (fun c16 => ?_)
      · replace hf := ineg c16 hf
        refine lv_iload_n hx hb dX12_product_82 rfl (lv_at hl 2 rfl) ?_
        refine lv_iload_n hx hb dX12_product_83 rfl (lv_at hl 0 rfl) ?_
        obtain ⟨h17, hf⟩ := chk_some hf
        refine lv_irem hx hb dX12_product_84 h17 ?_
        exact w_X12_product_b85 C hQ hrc_X12_one hk10 _ _ _ _ _ hf hP hD hS (lv_sub hl [1] rfl)
      · replace hf := ipos c16 hf
        refine lv_iload_n hx hb dX12_product_76 rfl (lv_at hl 2 rfl) ?_
        refine lv_iload_n hx hb dX12_product_77 rfl (lv_at hl 0 rfl) ?_
        obtain ⟨h18, hf⟩ := chk_some hf
        refine lv_idiv hx hb dX12_product_78 h18 ?_
        refine lv_goto (tgt := 85) hx hb dX12_product_79 (by decide) ?_
        exact w_X12_product_b85 C hQ hrc_X12_one hk10 _ _ _ _ _ hf hP hD hS (lv_sub hl [1] rfl)
    · replace hf := ipos c15 hf
      refine lv_iconst (v := 0) hx hb dX12_product_66 (by decide) ?_
      refine lv_goto (tgt := 85) hx hb dX12_product_67 (by decide) ?_
      exact w_X12_product_b85 C hQ hrc_X12_one hk10 _ _ _ _ _ hf hP hD hS (lv_sub hl [1] rfl)
  · replace hf := ipos c14 hf
    refine lv_iload_n hx hb dX12_product_56 rfl (lv_at hl 2 rfl) ?_
    refine lv_iload_n hx hb dX12_product_57 rfl (lv_at hl 0 rfl) ?_
    refine lv_imul hx hb dX12_product_58 ?_
    refine lv_goto (tgt := 85) hx hb dX12_product_59 (by decide) ?_
    exact w_X12_product_b85 C hQ hrc_X12_one hk10 _ _ _ _ _ hf hP hD hS (lv_sub hl [1] rfl)
set_option maxHeartbeats 4000000 in
set_option maxRecDepth 100000 in
theorem w_X12_product_b10 {p : Program} {l : Launch} {e : Env} {s : State} {m : MethodId} {args : Array Value} {below : List Frame} {meth : Method} {c : Code} {g : va_G} {ts : ClassId × ClassId × ClassId} {A : Nat → Prop} {Q : State → Prop} {a : Nat → Nat} {r : Int32} {σ' : St} {Rf Rl : Nat} {Rf_X12_one Rl_X12_one : Nat} {rc_X12_one : St → Option (Int32 × St)} (C : FX p s m args meth c RX12 cX12_product 4 g ts A) (hQ : RetI p l e (rk (Rf + 1) (Rl + 24)) s m args below meth c cX12_product g (WM ts a) A r σ' Q) (hrc_X12_one : (Rf_X12_one ≤ Rf ∧ Rl_X12_one ≤ Rl) ∧ ∀ (σ : St) (r : Int32) (u : St), rc_X12_one σ = some (r, u) → ConI l g ts (WM ts a) yX12_one cX12_one 5 (some .int) (rk Rf_X12_one Rl_X12_one) σ [.ref (a 0)] r u) : ∀ (n : Nat) (σ : St) (x1 : Int32) (x2 : Int32) (H : Heap) (locs : List Loc) (ls : Array Slot), f_X12_product_b10 rc_X12_one n σ x1 x2 = some (r, σ') → va_P g classes (WM ts a σ) H → va_D A (WM ts a σ) → va_S A s.heap H locs → lv_has ls 4 [(0, .ref (a 0)), (1, .int x1), (2, .int x2)] → W p l e (rk (Rf + 1) (Rl + 24)) s m args below meth c H locs 0 0 Q (F0 m 10 ls []) := by
  have hx := C.1
  have hb := C.2.1
  have hown := C.2.2.2.1
  have hts := C.2.2.2.2.1
  intro n
  induction n with
  | zero =>
    intro σ x1 x2 H locs ls hf
    cases hf
  | succ n ih =>
    intro σ x1 x2 H locs ls hf hP hD hS hl
    rw [f_X12_product_b10] at hf
    refine lv_aload_n hx hb dX12_product_10 rfl (lv_at hl 0 rfl) ?_
    refine G_X12_fault C hP q_1088 dX12_product_11 ?_
    refine lv_if_ge (tgt := 94) hx hb dX12_product_14 (by decide) (fun c7 => ?_) (fun c7 => ?_)
    · replace hf := ipos c7 hf
      refine lv_iload_n hx hb dX12_product_94 rfl (lv_at hl 1 rfl) ?_
      exact retI hQ hf dX12_product_95 hP hD hS
    · replace hf := ineg c7 hf
      refine lv_iload_n hx hb dX12_product_17 rfl (lv_at hl 2 rfl) ?_
      refine lv_bipush (v := 42) hx hb dX12_product_18 (by decide) ?_
      refine lv_icmp_eq (tgt := 35) hx hb dX12_product_20 (by decide) (fun c8 => ?_) (fun c8 => ?_)
      · replace hf := ipos c8 hf
        exact w_X12_product_b35 C hQ hrc_X12_one ih _ _ _ _ _ _ hf hP hD hS (lv_sub hl [0, 1, 2] rfl)
      · replace hf := ineg c8 hf
        refine lv_iload_n hx hb dX12_product_23 rfl (lv_at hl 2 rfl) ?_
        refine lv_bipush (v := 47) hx hb dX12_product_24 (by decide) ?_
        refine lv_icmp_eq (tgt := 35) hx hb dX12_product_26 (by decide) (fun c9 => ?_) (fun c9 => ?_)
        · replace hf := ipos c9 hf
          exact w_X12_product_b35 C hQ hrc_X12_one ih _ _ _ _ _ _ hf hP hD hS (lv_sub hl [0, 1, 2] rfl)
        · replace hf := ineg c9 hf
          refine lv_iload_n hx hb dX12_product_29 rfl (lv_at hl 2 rfl) ?_
          refine lv_bipush (v := 37) hx hb dX12_product_30 (by decide) ?_
          refine lv_icmp_ne (tgt := 94) hx hb dX12_product_32 (by decide) (fun c10 => ?_) (fun c10 => ?_)
          · replace hf := ineg c10 hf
            refine lv_iload_n hx hb dX12_product_94 rfl (lv_at hl 1 rfl) ?_
            exact retI hQ hf dX12_product_95 hP hD hS
          · replace hf := ipos c10 hf
            exact w_X12_product_b35 C hQ hrc_X12_one ih _ _ _ _ _ _ hf hP hD hS (lv_sub hl [0, 1, 2] rfl)
set_option maxHeartbeats 4000000 in
set_option maxRecDepth 100000 in
theorem c_X12_product1 {l : Launch} {g : va_G} {ts : ClassId × ClassId × ClassId} {a : Nat → Nat} {σ : St} {r : Int32} {σ' : St} {Rf Rl : Nat} {Rf_X12_one Rl_X12_one : Nat} {rc_X12_one : St → Option (Int32 × St)} (hrc_X12_one : (Rf_X12_one ≤ Rf ∧ Rl_X12_one ≤ Rl) ∧ ∀ (σ : St) (r : Int32) (u : St), rc_X12_one σ = some (r, u) → ConI l g ts (WM ts a) yX12_one cX12_one 5 (some .int) (rk Rf_X12_one Rl_X12_one) σ [.ref (a 0)] r u) (hf : f_X12_product1 rc_X12_one σ = some (r, σ')) : ConI l g ts (WM ts a) yX12_product cX12_product 4 (some .int) (rk (Rf + 1) (Rl + 24)) σ [.ref (a 0)] r σ' := by
  refine ConI_mk .int rfl rfl rfl rfl (by decide) (Nat.le_of_ble_eq_true rfl) ?_
  intro p e s m below meth c A Q ls C hQ hP hD hS hl
  have C : FX p s m _ meth c RX12 cX12_product 4 g ts A := C
  have hx := C.1
  have hb := C.2.1
  have hown := C.2.2.2.1
  have hts := C.2.2.2.2.1
  have hl : lv_has ls 4 [(0, .ref (a 0))] := hl
  rw [f_X12_product1] at hf
  refine lv_aload_n hx hb dX12_product_0 rfl (lv_at hl 0 rfl) ?_
  obtain ⟨r2, σ3, h1, hf⟩ := bnd2_some hf
  refine vI [] C hP hD hS (hrc_X12_one.2 _ _ _  h1) mv_X12_one q_1303 rv_X12 dX12_product_1 ⟨by have hz := hrc_X12_one.1; show Rf_X12_one + 1 ≤ Rf + _; omega, by have hz := hrc_X12_one.1; show 8 + (5 + 11) + Rl_X12_one ≤ Rl + _; omega⟩ ⟨Nat.zero_le _, Nat.zero_le _⟩ rfl rfl (Nat.le_of_ble_eq_true rfl) hl.1 (fun H locs hP hD hS => ?_)
  refine lv_istore_n (lv' := [(1, .int r2), (0, .ref (a 0))]) hx hb dX12_product_4 rfl hl (by decide) rfl (fun ls hl => ?_)
  refine lv_aload_n hx hb dX12_product_5 rfl (lv_at hl 1 rfl) ?_
  obtain ⟨r5, σ6, h4, hf⟩ := bnd2_some hf
  refine vI [] C hP hD hS (c_X12_byteAt h4) mv_X12_byteAt q_1307 rv_X12 dX12_product_6 ⟨by show 0 + 1 ≤ _ + _; omega, by show 8 + (1 + 11) + 0 ≤ _ + _; omega⟩ ⟨Nat.zero_le _, Nat.zero_le _⟩ rfl rfl (Nat.le_of_ble_eq_true rfl) hl.1 (fun H locs hP hD hS => ?_)
  refine lv_istore_n (lv' := [(2, .int r5), (1, .int r2), (0, .ref (a 0))]) hx hb dX12_product_9 rfl hl (by decide) rfl (fun ls hl => ?_)
  exact w_X12_product_b10 C hQ hrc_X12_one 256 _ _ _ _ _ _ hf hP hD hS (lv_sub hl [2, 1, 0] rfl)
theorem dX12_one_0 : decode cX12_one 0 = .ok (.aload_n 0, 1) := by decide +kernel
theorem dX12_one_1 : decode cX12_one 1 = .ok (.getfield 153, 3) := by decide +kernel
theorem dX12_one_4 : decode cX12_one 4 = .ok (.ifCond .lt 5, 3) := by decide +kernel
theorem dX12_one_7 : decode cX12_one 7 = .ok (.iconst 0, 1) := by decide +kernel
theorem dX12_one_8 : decode cX12_one 8 = .ok (.ireturn, 1) := by decide +kernel
theorem dX12_one_9 : decode cX12_one 9 = .ok (.aload_n 0, 1) := by decide +kernel
theorem dX12_one_10 : decode cX12_one 10 = .ok (.invokevirtual 156, 3) := by decide +kernel
theorem dX12_one_13 : decode cX12_one 13 = .ok (.istore_n 1, 1) := by decide +kernel
theorem dX12_one_14 : decode cX12_one 14 = .ok (.iload_n 1, 1) := by decide +kernel
theorem dX12_one_15 : decode cX12_one 15 = .ok (.bipush 33, 2) := by decide +kernel
theorem dX12_one_17 : decode cX12_one 17 = .ok (.if_icmp .eq 15, 3) := by decide +kernel
theorem dX12_one_20 : decode cX12_one 20 = .ok (.iload_n 1, 1) := by decide +kernel
theorem dX12_one_21 : decode cX12_one 21 = .ok (.bipush 45, 2) := by decide +kernel
theorem dX12_one_23 : decode cX12_one 23 = .ok (.if_icmp .eq 9, 3) := by decide +kernel
theorem dX12_one_26 : decode cX12_one 26 = .ok (.iload_n 1, 1) := by decide +kernel
theorem dX12_one_27 : decode cX12_one 27 = .ok (.bipush 40, 2) := by decide +kernel
theorem dX12_one_29 : decode cX12_one 29 = .ok (.if_icmp .ne 116, 3) := by decide +kernel
theorem dX12_one_32 : decode cX12_one 32 = .ok (.aload_n 0, 1) := by decide +kernel
theorem dX12_one_33 : decode cX12_one 33 = .ok (.getfield 178, 3) := by decide +kernel
theorem dX12_one_36 : decode cX12_one 36 = .ok (.bipush 6, 2) := by decide +kernel
theorem dX12_one_38 : decode cX12_one 38 = .ok (.if_icmp .ne 8, 3) := by decide +kernel
theorem dX12_one_41 : decode cX12_one 41 = .ok (.aload_n 0, 1) := by decide +kernel
theorem dX12_one_42 : decode cX12_one 42 = .ok (.invokevirtual 181, 3) := by decide +kernel
theorem dX12_one_45 : decode cX12_one 45 = .ok (.ireturn, 1) := by decide +kernel
theorem dX12_one_46 : decode cX12_one 46 = .ok (.aload_n 0, 1) := by decide +kernel
theorem dX12_one_47 : decode cX12_one 47 = .ok (.dup, 1) := by decide +kernel
theorem dX12_one_48 : decode cX12_one 48 = .ok (.getfield 178, 3) := by decide +kernel
theorem dX12_one_51 : decode cX12_one 51 = .ok (.iconst 1, 1) := by decide +kernel
theorem dX12_one_52 : decode cX12_one 52 = .ok (.iadd, 1) := by decide +kernel
theorem dX12_one_53 : decode cX12_one 53 = .ok (.putfield 178, 3) := by decide +kernel
theorem dX12_one_56 : decode cX12_one 56 = .ok (.aload_n 0, 1) := by decide +kernel
theorem dX12_one_57 : decode cX12_one 57 = .ok (.dup, 1) := by decide +kernel
theorem dX12_one_58 : decode cX12_one 58 = .ok (.getfield 144, 3) := by decide +kernel
theorem dX12_one_61 : decode cX12_one 61 = .ok (.iconst 1, 1) := by decide +kernel
theorem dX12_one_62 : decode cX12_one 62 = .ok (.iadd, 1) := by decide +kernel
theorem dX12_one_63 : decode cX12_one 63 = .ok (.putfield 144, 3) := by decide +kernel
theorem dX12_one_66 : decode cX12_one 66 = .ok (.iload_n 1, 1) := by decide +kernel
theorem dX12_one_67 : decode cX12_one 67 = .ok (.bipush 40, 2) := by decide +kernel
theorem dX12_one_69 : decode cX12_one 69 = .ok (.if_icmp .ne 10, 3) := by decide +kernel
theorem dX12_one_72 : decode cX12_one 72 = .ok (.aload_n 0, 1) := by decide +kernel
theorem dX12_one_73 : decode cX12_one 73 = .ok (.invokevirtual 184, 3) := by decide +kernel
theorem dX12_one_76 : decode cX12_one 76 = .ok (.goto 7, 3) := by decide +kernel
theorem dX12_one_79 : decode cX12_one 79 = .ok (.aload_n 0, 1) := by decide +kernel
theorem dX12_one_80 : decode cX12_one 80 = .ok (.invokevirtual 175, 3) := by decide +kernel
theorem dX12_one_83 : decode cX12_one 83 = .ok (.istore_n 2, 1) := by decide +kernel
theorem dX12_one_84 : decode cX12_one 84 = .ok (.iload_n 1, 1) := by decide +kernel
theorem dX12_one_85 : decode cX12_one 85 = .ok (.bipush 40, 2) := by decide +kernel
theorem dX12_one_87 : decode cX12_one 87 = .ok (.if_icmp .ne 17, 3) := by decide +kernel
theorem dX12_one_90 : decode cX12_one 90 = .ok (.aload_n 0, 1) := by decide +kernel
theorem dX12_one_91 : decode cX12_one 91 = .ok (.bipush 41, 2) := by decide +kernel
theorem dX12_one_93 : decode cX12_one 93 = .ok (.invokevirtual 163, 3) := by decide +kernel
theorem dX12_one_96 : decode cX12_one 96 = .ok (.ifCond .ne 8, 3) := by decide +kernel
theorem dX12_one_99 : decode cX12_one 99 = .ok (.aload_n 0, 1) := by decide +kernel
theorem dX12_one_100 : decode cX12_one 100 = .ok (.invokevirtual 181, 3) := by decide +kernel
theorem dX12_one_103 : decode cX12_one 103 = .ok (.ireturn, 1) := by decide +kernel
theorem dX12_one_104 : decode cX12_one 104 = .ok (.aload_n 0, 1) := by decide +kernel
theorem dX12_one_105 : decode cX12_one 105 = .ok (.dup, 1) := by decide +kernel
theorem dX12_one_106 : decode cX12_one 106 = .ok (.getfield 178, 3) := by decide +kernel
theorem dX12_one_109 : decode cX12_one 109 = .ok (.iconst 1, 1) := by decide +kernel
theorem dX12_one_110 : decode cX12_one 110 = .ok (.isub, 1) := by decide +kernel
theorem dX12_one_111 : decode cX12_one 111 = .ok (.putfield 178, 3) := by decide +kernel
theorem dX12_one_114 : decode cX12_one 114 = .ok (.iload_n 1, 1) := by decide +kernel
theorem dX12_one_115 : decode cX12_one 115 = .ok (.bipush 40, 2) := by decide +kernel
theorem dX12_one_117 : decode cX12_one 117 = .ok (.if_icmp .ne 7, 3) := by decide +kernel
theorem dX12_one_120 : decode cX12_one 120 = .ok (.iload_n 2, 1) := by decide +kernel
theorem dX12_one_121 : decode cX12_one 121 = .ok (.goto 23, 3) := by decide +kernel
theorem dX12_one_124 : decode cX12_one 124 = .ok (.iload_n 1, 1) := by decide +kernel
theorem dX12_one_125 : decode cX12_one 125 = .ok (.bipush 45, 2) := by decide +kernel
theorem dX12_one_127 : decode cX12_one 127 = .ok (.if_icmp .ne 8, 3) := by decide +kernel
theorem dX12_one_130 : decode cX12_one 130 = .ok (.iload_n 2, 1) := by decide +kernel
theorem dX12_one_131 : decode cX12_one 131 = .ok (.ineg, 1) := by decide +kernel
theorem dX12_one_132 : decode cX12_one 132 = .ok (.goto 12, 3) := by decide +kernel
theorem dX12_one_135 : decode cX12_one 135 = .ok (.iload_n 2, 1) := by decide +kernel
theorem dX12_one_136 : decode cX12_one 136 = .ok (.ifCond .ne 7, 3) := by decide +kernel
theorem dX12_one_139 : decode cX12_one 139 = .ok (.iconst 1, 1) := by decide +kernel
theorem dX12_one_140 : decode cX12_one 140 = .ok (.goto 4, 3) := by decide +kernel
theorem dX12_one_143 : decode cX12_one 143 = .ok (.iconst 0, 1) := by decide +kernel
theorem dX12_one_144 : decode cX12_one 144 = .ok (.ireturn, 1) := by decide +kernel
theorem dX12_one_145 : decode cX12_one 145 = .ok (.iload_n 1, 1) := by decide +kernel
theorem dX12_one_146 : decode cX12_one 146 = .ok (.invokestatic 187, 3) := by decide +kernel
theorem dX12_one_149 : decode cX12_one 149 = .ok (.istore_n 2, 1) := by decide +kernel
theorem dX12_one_150 : decode cX12_one 150 = .ok (.iload_n 2, 1) := by decide +kernel
theorem dX12_one_151 : decode cX12_one 151 = .ok (.ifCond .lt 20, 3) := by decide +kernel
theorem dX12_one_154 : decode cX12_one 154 = .ok (.aload_n 0, 1) := by decide +kernel
theorem dX12_one_155 : decode cX12_one 155 = .ok (.dup, 1) := by decide +kernel
theorem dX12_one_156 : decode cX12_one 156 = .ok (.getfield 144, 3) := by decide +kernel
theorem dX12_one_159 : decode cX12_one 159 = .ok (.iconst 1, 1) := by decide +kernel
theorem dX12_one_160 : decode cX12_one 160 = .ok (.iadd, 1) := by decide +kernel
theorem dX12_one_161 : decode cX12_one 161 = .ok (.putfield 144, 3) := by decide +kernel
theorem dX12_one_164 : decode cX12_one 164 = .ok (.aload_n 0, 1) := by decide +kernel
theorem dX12_one_165 : decode cX12_one 165 = .ok (.getfield 36, 3) := by decide +kernel
theorem dX12_one_168 : decode cX12_one 168 = .ok (.iload_n 2, 1) := by decide +kernel
theorem dX12_one_169 : decode cX12_one 169 = .ok (.iaload, 1) := by decide +kernel
theorem dX12_one_170 : decode cX12_one 170 = .ok (.ireturn, 1) := by decide +kernel
theorem dX12_one_171 : decode cX12_one 171 = .ok (.iconst 0, 1) := by decide +kernel
theorem dX12_one_172 : decode cX12_one 172 = .ok (.istore_n 3, 1) := by decide +kernel
theorem dX12_one_173 : decode cX12_one 173 = .ok (.iconst 0, 1) := by decide +kernel
theorem dX12_one_174 : decode cX12_one 174 = .ok (.istore 4, 2) := by decide +kernel
theorem dX12_one_176 : decode cX12_one 176 = .ok (.iload 4, 2) := by decide +kernel
theorem dX12_one_178 : decode cX12_one 178 = .ok (.iconst 4, 1) := by decide +kernel
theorem dX12_one_179 : decode cX12_one 179 = .ok (.if_icmp .ge 50, 3) := by decide +kernel
theorem dX12_one_182 : decode cX12_one 182 = .ok (.aload_n 0, 1) := by decide +kernel
theorem dX12_one_183 : decode cX12_one 183 = .ok (.invokevirtual 156, 3) := by decide +kernel
theorem dX12_one_186 : decode cX12_one 186 = .ok (.bipush 48, 2) := by decide +kernel
theorem dX12_one_188 : decode cX12_one 188 = .ok (.if_icmp .lt 41, 3) := by decide +kernel
theorem dX12_one_191 : decode cX12_one 191 = .ok (.aload_n 0, 1) := by decide +kernel
theorem dX12_one_192 : decode cX12_one 192 = .ok (.invokevirtual 156, 3) := by decide +kernel
theorem dX12_one_195 : decode cX12_one 195 = .ok (.bipush 57, 2) := by decide +kernel
theorem dX12_one_197 : decode cX12_one 197 = .ok (.if_icmp .gt 32, 3) := by decide +kernel
theorem dX12_one_200 : decode cX12_one 200 = .ok (.bipush 10, 2) := by decide +kernel
theorem dX12_one_202 : decode cX12_one 202 = .ok (.iload_n 3, 1) := by decide +kernel
theorem dX12_one_203 : decode cX12_one 203 = .ok (.imul, 1) := by decide +kernel
theorem dX12_one_204 : decode cX12_one 204 = .ok (.aload_n 0, 1) := by decide +kernel
theorem dX12_one_205 : decode cX12_one 205 = .ok (.invokevirtual 156, 3) := by decide +kernel
theorem dX12_one_208 : decode cX12_one 208 = .ok (.iadd, 1) := by decide +kernel
theorem dX12_one_209 : decode cX12_one 209 = .ok (.bipush 48, 2) := by decide +kernel
theorem dX12_one_211 : decode cX12_one 211 = .ok (.isub, 1) := by decide +kernel
theorem dX12_one_212 : decode cX12_one 212 = .ok (.istore_n 3, 1) := by decide +kernel
theorem dX12_one_213 : decode cX12_one 213 = .ok (.iinc 4 1, 3) := by decide +kernel
theorem dX12_one_216 : decode cX12_one 216 = .ok (.aload_n 0, 1) := by decide +kernel
theorem dX12_one_217 : decode cX12_one 217 = .ok (.dup, 1) := by decide +kernel
theorem dX12_one_218 : decode cX12_one 218 = .ok (.getfield 144, 3) := by decide +kernel
theorem dX12_one_221 : decode cX12_one 221 = .ok (.iconst 1, 1) := by decide +kernel
theorem dX12_one_222 : decode cX12_one 222 = .ok (.iadd, 1) := by decide +kernel
theorem dX12_one_223 : decode cX12_one 223 = .ok (.putfield 144, 3) := by decide +kernel
theorem dX12_one_226 : decode cX12_one 226 = .ok (.goto (-50), 3) := by decide +kernel
theorem dX12_one_229 : decode cX12_one 229 = .ok (.iload 4, 2) := by decide +kernel
theorem dX12_one_231 : decode cX12_one 231 = .ok (.ifCond .ne 10, 3) := by decide +kernel
theorem dX12_one_234 : decode cX12_one 234 = .ok (.aload_n 0, 1) := by decide +kernel
theorem dX12_one_235 : decode cX12_one 235 = .ok (.invokevirtual 181, 3) := by decide +kernel
theorem dX12_one_238 : decode cX12_one 238 = .ok (.goto 4, 3) := by decide +kernel
theorem dX12_one_241 : decode cX12_one 241 = .ok (.iload_n 3, 1) := by decide +kernel
theorem dX12_one_242 : decode cX12_one 242 = .ok (.ireturn, 1) := by decide +kernel
def f_X12_one_b104 (rc_X12_either : St → Option (Int32 × St)) (rc_X12_one : St → Option (Int32 × St)) (σ : St) (x1 : Int32) (x2 : Int32) : Option (Int32 × St) := if x1 = (40 : Int32) then (some (x2, sI σ 617 0 ((σ.1 617 0) - (1 : Int32)))) else (if x1 = (45 : Int32) then (some (-x2, sI σ 617 0 ((σ.1 617 0) - (1 : Int32)))) else (if x2 = 0 then (some ((1 : Int32), sI σ 617 0 ((σ.1 617 0) - (1 : Int32)))) else (some ((0 : Int32), sI σ 617 0 ((σ.1 617 0) - (1 : Int32))))))
def f_X12_one_b83 (rc_X12_either : St → Option (Int32 × St)) (rc_X12_one : St → Option (Int32 × St)) (σ : St) (x1 : Int32) (s0 : Int32) : Option (Int32 × St) := if x1 = (40 : Int32) then (bnd2 (f_X12_takes σ (41 : Int32)) (fun r40 σ41 => if r40 = 0 then (bnd2 (f_X12_wrong σ41) (fun r44 σ45 => some (r44, σ45))) else (f_X12_one_b104 rc_X12_either rc_X12_one σ41 x1 s0))) else (f_X12_one_b104 rc_X12_either rc_X12_one σ x1 s0)
def f_X12_one_b32 (rc_X12_either : St → Option (Int32 × St)) (rc_X12_one : St → Option (Int32 × St)) (σ : St) (x1 : Int32) : Option (Int32 × St) := if σ.1 617 0 = (6 : Int32) then (bnd2 (f_X12_wrong σ) (fun r22 σ23 => some (r22, σ23))) else (bnd (sI (sI σ 617 0 ((σ.1 617 0) + (1 : Int32))) 614 0 (((sI σ 617 0 ((σ.1 617 0) + (1 : Int32))).1 614 0) + (1 : Int32))) (fun σ13 => if x1 = (40 : Int32) then (bnd2 (rc_X12_either σ13) (fun r19 σ20 => f_X12_one_b83 rc_X12_either rc_X12_one σ20 x1 r19)) else (bnd2 (rc_X12_one σ13) (fun r16 σ17 => f_X12_one_b83 rc_X12_either rc_X12_one σ17 x1 r16))))
def f_X12_one_b229 (rc_X12_either : St → Option (Int32 × St)) (rc_X12_one : St → Option (Int32 × St)) (σ : St) (x3 : Int32) (x4 : Int32) : Option (Int32 × St) := if x4 = 0 then (bnd2 (f_X12_wrong σ) (fun r48 σ49 => some (r48, σ49))) else (some (x3, σ))
def f_X12_one_b176 (rc_X12_either : St → Option (Int32 × St)) (rc_X12_one : St → Option (Int32 × St)) : Nat → St → Int32 → Int32 → Option (Int32 × St)
  | 0, _, _, _ => none
  | n + 1, σ, x3, x4 => if (4 : Int32) ≤ x4 then (f_X12_one_b229 rc_X12_either rc_X12_one σ x3 x4) else (bnd2 (f_X12_byteAt σ) (fun r26 σ27 => if r26 < (48 : Int32) then (f_X12_one_b229 rc_X12_either rc_X12_one σ27 x3 x4) else (bnd2 (f_X12_byteAt σ27) (fun r30 σ31 => if (57 : Int32) < r30 then (f_X12_one_b229 rc_X12_either rc_X12_one σ31 x3 x4) else (bnd2 (f_X12_byteAt σ31) (fun r34 σ35 => bnd ((((10 : Int32) * x3) + r34) - (48 : Int32)) (fun v36 => bnd (x4 + 1) (fun v37 => f_X12_one_b176 rc_X12_either rc_X12_one n (sI σ35 614 0 ((σ35.1 614 0) + (1 : Int32))) v36 v37))))))))
def f_X12_one1 (rc_X12_either : St → Option (Int32 × St)) (rc_X12_one : St → Option (Int32 × St)) (σ : St) : Option (Int32 × St) := if σ.1 616 0 < 0 then (bnd2 (f_X12_byteAt σ) (fun r3 σ4 => if r3 = (33 : Int32) then (f_X12_one_b32 rc_X12_either rc_X12_one σ4 r3) else (if r3 = (45 : Int32) then (f_X12_one_b32 rc_X12_either rc_X12_one σ4 r3) else (if r3 = (40 : Int32) then (f_X12_one_b32 rc_X12_either rc_X12_one σ4 r3) else (bnd1 (f_X12_nameOf r3) (fun r9 => if r9 < 0 then (f_X12_one_b176 rc_X12_either rc_X12_one 256 σ4 (0 : Int32) (0 : Int32)) else (chk (r9 < 0 ∨ 6 ≤ r9.toNatClampNeg) (some ((sI σ4 614 0 ((σ4.1 614 0) + (1 : Int32))).2.2.1 618 0 r9.toNatClampNeg, sI σ4 614 0 ((σ4.1 614 0) + (1 : Int32))))))))))) else (some ((0 : Int32), σ))
set_option maxHeartbeats 4000000 in
set_option maxRecDepth 100000 in
theorem w_X12_one_b104 {p : Program} {l : Launch} {e : Env} {s : State} {m : MethodId} {args : Array Value} {below : List Frame} {meth : Method} {c : Code} {g : va_G} {ts : ClassId × ClassId × ClassId} {A : Nat → Prop} {Q : State → Prop} {a : Nat → Nat} {r : Int32} {σ' : St} {Rf Rl : Nat} {Rf_X12_either Rl_X12_either : Nat} {Rf_X12_one Rl_X12_one : Nat} {rc_X12_either : St → Option (Int32 × St)} {rc_X12_one : St → Option (Int32 × St)} (C : FX p s m args meth c RX12 cX12_one 5 g ts A) (hQ : RetI p l e (rk (Rf + 2) (Rl + 41)) s m args below meth c cX12_one g (WM ts a) A r σ' Q) (hrc_X12_either : (Rf_X12_either ≤ Rf ∧ Rl_X12_either ≤ Rl) ∧ ∀ (σ : St) (r : Int32) (u : St), rc_X12_either σ = some (r, u) → ConI l g ts (WM ts a) yX12_either cX12_either 3 (some .int) (rk Rf_X12_either Rl_X12_either) σ [.ref (a 0)] r u) (hrc_X12_one : (Rf_X12_one ≤ Rf ∧ Rl_X12_one ≤ Rl) ∧ ∀ (σ : St) (r : Int32) (u : St), rc_X12_one σ = some (r, u) → ConI l g ts (WM ts a) yX12_one cX12_one 5 (some .int) (rk Rf_X12_one Rl_X12_one) σ [.ref (a 0)] r u) : ∀ (σ : St) (x1 : Int32) (x2 : Int32) (H : Heap) (locs : List Loc) (ls : Array Slot), f_X12_one_b104 rc_X12_either rc_X12_one σ x1 x2 = some (r, σ') → va_P g classes (WM ts a σ) H → va_D A (WM ts a σ) → va_S A s.heap H locs → lv_has ls 5 [(0, .ref (a 0)), (1, .int x1), (2, .int x2)] → W p l e (rk (Rf + 2) (Rl + 41)) s m args below meth c H locs 0 0 Q (F0 m 104 ls []) := by
  have hx := C.1
  have hb := C.2.1
  have hown := C.2.2.2.1
  have hts := C.2.2.2.2.1
  intro σ x1 x2 H locs ls hf hP hD hS hl
  rw [f_X12_one_b104] at hf
  refine lv_aload_n hx hb dX12_one_104 rfl (lv_at hl 0 rfl) ?_
  refine lv_dup hx hb dX12_one_105 rfl ?_
  refine G_X12_opened C hP q_1089 dX12_one_106 ?_
  refine lv_iconst (v := 1) hx hb dX12_one_109 (by decide) ?_
  refine lv_isub hx hb dX12_one_110 ?_
  refine S_X12_opened C hP hD hS q_1089 dX12_one_111 (fun H locs hP hD hS => ?_)
  refine lv_iload_n hx hb dX12_one_114 rfl (lv_at hl 1 rfl) ?_
  refine lv_bipush (v := 40) hx hb dX12_one_115 (by decide) ?_
  refine lv_icmp_ne (tgt := 124) hx hb dX12_one_117 (by decide) (fun c50 => ?_) (fun c50 => ?_)
  · replace hf := ineg c50 hf
    refine lv_iload_n hx hb dX12_one_124 rfl (lv_at hl 1 rfl) ?_
    refine lv_bipush (v := 45) hx hb dX12_one_125 (by decide) ?_
    refine lv_icmp_ne (tgt := 135) hx hb dX12_one_127 (by decide) (fun c51 => ?_) (fun c51 => ?_)
    · replace hf := ineg c51 hf
      refine lv_iload_n hx hb dX12_one_135 rfl (lv_at hl 2 rfl) ?_
      refine lv_if_ne (tgt := 143) hx hb dX12_one_136 (by decide) (fun c52 => ?_) (fun c52 => ?_)
      · replace hf := ineg c52 hf
        refine lv_iconst (v := 0) hx hb dX12_one_143 (by decide) ?_
        exact retI hQ hf dX12_one_144 hP hD hS
      · replace hf := ipos c52 hf
        refine lv_iconst (v := 1) hx hb dX12_one_139 (by decide) ?_
        refine lv_goto (tgt := 144) hx hb dX12_one_140 (by decide) ?_
        exact retI hQ hf dX12_one_144 hP hD hS
    · replace hf := ipos c51 hf
      refine lv_iload_n hx hb dX12_one_130 rfl (lv_at hl 2 rfl) ?_
      refine lv_ineg hx hb dX12_one_131 ?_
      refine lv_goto (tgt := 144) hx hb dX12_one_132 (by decide) ?_
      exact retI hQ hf dX12_one_144 hP hD hS
  · replace hf := ipos c50 hf
    refine lv_iload_n hx hb dX12_one_120 rfl (lv_at hl 2 rfl) ?_
    refine lv_goto (tgt := 144) hx hb dX12_one_121 (by decide) ?_
    exact retI hQ hf dX12_one_144 hP hD hS
set_option maxHeartbeats 4000000 in
set_option maxRecDepth 100000 in
theorem w_X12_one_b83 {p : Program} {l : Launch} {e : Env} {s : State} {m : MethodId} {args : Array Value} {below : List Frame} {meth : Method} {c : Code} {g : va_G} {ts : ClassId × ClassId × ClassId} {A : Nat → Prop} {Q : State → Prop} {a : Nat → Nat} {r : Int32} {σ' : St} {Rf Rl : Nat} {Rf_X12_either Rl_X12_either : Nat} {Rf_X12_one Rl_X12_one : Nat} {rc_X12_either : St → Option (Int32 × St)} {rc_X12_one : St → Option (Int32 × St)} (C : FX p s m args meth c RX12 cX12_one 5 g ts A) (hQ : RetI p l e (rk (Rf + 2) (Rl + 41)) s m args below meth c cX12_one g (WM ts a) A r σ' Q) (hrc_X12_either : (Rf_X12_either ≤ Rf ∧ Rl_X12_either ≤ Rl) ∧ ∀ (σ : St) (r : Int32) (u : St), rc_X12_either σ = some (r, u) → ConI l g ts (WM ts a) yX12_either cX12_either 3 (some .int) (rk Rf_X12_either Rl_X12_either) σ [.ref (a 0)] r u) (hrc_X12_one : (Rf_X12_one ≤ Rf ∧ Rl_X12_one ≤ Rl) ∧ ∀ (σ : St) (r : Int32) (u : St), rc_X12_one σ = some (r, u) → ConI l g ts (WM ts a) yX12_one cX12_one 5 (some .int) (rk Rf_X12_one Rl_X12_one) σ [.ref (a 0)] r u) : ∀ (σ : St) (x1 : Int32) (s0 : Int32) (H : Heap) (locs : List Loc) (ls : Array Slot), f_X12_one_b83 rc_X12_either rc_X12_one σ x1 s0 = some (r, σ') → va_P g classes (WM ts a σ) H → va_D A (WM ts a σ) → va_S A s.heap H locs → lv_has ls 5 [(0, .ref (a 0)), (1, .int x1)] → W p l e (rk (Rf + 2) (Rl + 41)) s m args below meth c H locs 0 0 Q (F0 m 83 ls [.int s0]) := by
  have hx := C.1
  have hb := C.2.1
  have hown := C.2.2.2.1
  have hts := C.2.2.2.2.1
  intro σ x1 s0 H locs ls hf hP hD hS hl
  rw [f_X12_one_b83] at hf
  refine lv_istore_n (lv' := [(2, .int s0), (0, .ref (a 0)), (1, .int x1)]) hx hb dX12_one_83 rfl hl (by decide) rfl (fun ls hl => ?_)
  refine lv_iload_n hx hb dX12_one_84 rfl (lv_at hl 2 rfl) ?_
  refine lv_bipush (v := 40) hx hb dX12_one_85 (by decide) ?_
  refine lv_icmp_ne (tgt := 104) hx hb dX12_one_87 (by decide) (fun c38 => ?_) (fun c38 => ?_)
  · replace hf := ineg c38 hf
    exact w_X12_one_b104 C hQ hrc_X12_either hrc_X12_one _ _ _ _ _ _ hf hP hD hS (lv_sub hl [1, 2, 0] rfl)
  · replace hf := ipos c38 hf
    refine lv_aload_n hx hb dX12_one_90 rfl (lv_at hl 1 rfl) ?_
    refine lv_bipush (v := 41) hx hb dX12_one_91 (by decide) ?_
    obtain ⟨r40, σ41, h39, hf⟩ := bnd2_some hf
    refine vI [] C hP hD hS (c_X12_takes h39) mv_X12_takes q_1315 rv_X12 dX12_one_93 ⟨by show 1 + 1 ≤ _ + _; omega, by show 8 + (2 + 11) + 20 ≤ _ + _; omega⟩ ⟨Nat.zero_le _, Nat.zero_le _⟩ rfl rfl (Nat.le_of_ble_eq_true rfl) hl.1 (fun H locs hP hD hS => ?_)
    refine lv_if_ne (tgt := 104) hx hb dX12_one_96 (by decide) (fun c42 => ?_) (fun c42 => ?_)
    · replace hf := ineg c42 hf
      exact w_X12_one_b104 C hQ hrc_X12_either hrc_X12_one _ _ _ _ _ _ hf hP hD hS (lv_sub hl [1, 2, 0] rfl)
    · replace hf := ipos c42 hf
      refine lv_aload_n hx hb dX12_one_99 rfl (lv_at hl 1 rfl) ?_
      obtain ⟨r44, σ45, h43, hf⟩ := bnd2_some hf
      refine vI [] C hP hD hS (c_X12_wrong h43) mv_X12_wrong q_1311 rv_X12 dX12_one_100 ⟨by show 0 + 1 ≤ _ + _; omega, by show 8 + (1 + 11) + 0 ≤ _ + _; omega⟩ ⟨Nat.zero_le _, Nat.zero_le _⟩ rfl rfl (Nat.le_of_ble_eq_true rfl) hl.1 (fun H locs hP hD hS => ?_)
      exact retI hQ hf dX12_one_103 hP hD hS
set_option maxHeartbeats 4000000 in
set_option maxRecDepth 100000 in
theorem w_X12_one_b32 {p : Program} {l : Launch} {e : Env} {s : State} {m : MethodId} {args : Array Value} {below : List Frame} {meth : Method} {c : Code} {g : va_G} {ts : ClassId × ClassId × ClassId} {A : Nat → Prop} {Q : State → Prop} {a : Nat → Nat} {r : Int32} {σ' : St} {Rf Rl : Nat} {Rf_X12_either Rl_X12_either : Nat} {Rf_X12_one Rl_X12_one : Nat} {rc_X12_either : St → Option (Int32 × St)} {rc_X12_one : St → Option (Int32 × St)} (C : FX p s m args meth c RX12 cX12_one 5 g ts A) (hQ : RetI p l e (rk (Rf + 2) (Rl + 41)) s m args below meth c cX12_one g (WM ts a) A r σ' Q) (hrc_X12_either : (Rf_X12_either ≤ Rf ∧ Rl_X12_either ≤ Rl) ∧ ∀ (σ : St) (r : Int32) (u : St), rc_X12_either σ = some (r, u) → ConI l g ts (WM ts a) yX12_either cX12_either 3 (some .int) (rk Rf_X12_either Rl_X12_either) σ [.ref (a 0)] r u) (hrc_X12_one : (Rf_X12_one ≤ Rf ∧ Rl_X12_one ≤ Rl) ∧ ∀ (σ : St) (r : Int32) (u : St), rc_X12_one σ = some (r, u) → ConI l g ts (WM ts a) yX12_one cX12_one 5 (some .int) (rk Rf_X12_one Rl_X12_one) σ [.ref (a 0)] r u) : ∀ (σ : St) (x1 : Int32) (H : Heap) (locs : List Loc) (ls : Array Slot), f_X12_one_b32 rc_X12_either rc_X12_one σ x1 = some (r, σ') → va_P g classes (WM ts a σ) H → va_D A (WM ts a σ) → va_S A s.heap H locs → lv_has ls 5 [(0, .ref (a 0)), (1, .int x1)] → W p l e (rk (Rf + 2) (Rl + 41)) s m args below meth c H locs 0 0 Q (F0 m 32 ls []) := by
  have hx := C.1
  have hb := C.2.1
  have hown := C.2.2.2.1
  have hts := C.2.2.2.2.1
  intro σ x1 H locs ls hf hP hD hS hl
  rw [f_X12_one_b32] at hf
  refine lv_aload_n hx hb dX12_one_32 rfl (lv_at hl 0 rfl) ?_
  refine G_X12_opened C hP q_1089 dX12_one_33 ?_
  refine lv_bipush (v := 6) hx hb dX12_one_36 (by decide) ?_
  refine lv_icmp_ne (tgt := 46) hx hb dX12_one_38 (by decide) (fun c12 => ?_) (fun c12 => ?_)
  · replace hf := ineg c12 hf
    refine lv_aload_n hx hb dX12_one_46 rfl (lv_at hl 0 rfl) ?_
    refine lv_dup hx hb dX12_one_47 rfl ?_
    refine G_X12_opened C hP q_1089 dX12_one_48 ?_
    refine lv_iconst (v := 1) hx hb dX12_one_51 (by decide) ?_
    refine lv_iadd hx hb dX12_one_52 ?_
    refine S_X12_opened C hP hD hS q_1089 dX12_one_53 (fun H locs hP hD hS => ?_)
    refine lv_aload_n hx hb dX12_one_56 rfl (lv_at hl 0 rfl) ?_
    refine lv_dup hx hb dX12_one_57 rfl ?_
    refine G_X12_at C hP q_1086 dX12_one_58 ?_
    refine lv_iconst (v := 1) hx hb dX12_one_61 (by decide) ?_
    refine lv_iadd hx hb dX12_one_62 ?_
    refine S_X12_at C hP hD hS q_1086 dX12_one_63 (fun H locs hP hD hS => ?_)
    refine nameS hP hD hf (fun σ13 hP hD hf => ?_)
    refine lv_iload_n hx hb dX12_one_66 rfl (lv_at hl 1 rfl) ?_
    refine lv_bipush (v := 40) hx hb dX12_one_67 (by decide) ?_
    refine lv_icmp_ne (tgt := 79) hx hb dX12_one_69 (by decide) (fun c14 => ?_) (fun c14 => ?_)
    · replace hf := ineg c14 hf
      refine lv_aload_n hx hb dX12_one_79 rfl (lv_at hl 0 rfl) ?_
      obtain ⟨r16, σ17, h15, hf⟩ := bnd2_some hf
      refine vI [] C hP hD hS (hrc_X12_one.2 _ _ _  h15) mv_X12_one q_1303 rv_X12 dX12_one_80 ⟨by have hz := hrc_X12_one.1; show Rf_X12_one + 1 ≤ Rf + _; omega, by have hz := hrc_X12_one.1; show 8 + (5 + 11) + Rl_X12_one ≤ Rl + _; omega⟩ ⟨Nat.zero_le _, Nat.zero_le _⟩ rfl rfl (Nat.le_of_ble_eq_true rfl) hl.1 (fun H locs hP hD hS => ?_)
      exact w_X12_one_b83 C hQ hrc_X12_either hrc_X12_one _ _ _ _ _ _ hf hP hD hS (lv_sub hl [0, 1] rfl)
    · replace hf := ipos c14 hf
      refine lv_aload_n hx hb dX12_one_72 rfl (lv_at hl 0 rfl) ?_
      obtain ⟨r19, σ20, h18, hf⟩ := bnd2_some hf
      refine vI [] C hP hD hS (hrc_X12_either.2 _ _ _  h18) mv_X12_either q_1283 rv_X12 dX12_one_73 ⟨by have hz := hrc_X12_either.1; show Rf_X12_either + 1 ≤ Rf + _; omega, by have hz := hrc_X12_either.1; show 8 + (3 + 11) + Rl_X12_either ≤ Rl + _; omega⟩ ⟨Nat.zero_le _, Nat.zero_le _⟩ rfl rfl (Nat.le_of_ble_eq_true rfl) hl.1 (fun H locs hP hD hS => ?_)
      refine lv_goto (tgt := 83) hx hb dX12_one_76 (by decide) ?_
      exact w_X12_one_b83 C hQ hrc_X12_either hrc_X12_one _ _ _ _ _ _ hf hP hD hS (lv_sub hl [0, 1] rfl)
  · replace hf := ipos c12 hf
    refine lv_aload_n hx hb dX12_one_41 rfl (lv_at hl 0 rfl) ?_
    obtain ⟨r22, σ23, h21, hf⟩ := bnd2_some hf
    refine vI [] C hP hD hS (c_X12_wrong h21) mv_X12_wrong q_1311 rv_X12 dX12_one_42 ⟨by show 0 + 1 ≤ _ + _; omega, by show 8 + (1 + 11) + 0 ≤ _ + _; omega⟩ ⟨Nat.zero_le _, Nat.zero_le _⟩ rfl rfl (Nat.le_of_ble_eq_true rfl) hl.1 (fun H locs hP hD hS => ?_)
    exact retI hQ hf dX12_one_45 hP hD hS
set_option maxHeartbeats 4000000 in
set_option maxRecDepth 100000 in
theorem w_X12_one_b229 {p : Program} {l : Launch} {e : Env} {s : State} {m : MethodId} {args : Array Value} {below : List Frame} {meth : Method} {c : Code} {g : va_G} {ts : ClassId × ClassId × ClassId} {A : Nat → Prop} {Q : State → Prop} {a : Nat → Nat} {r : Int32} {σ' : St} {Rf Rl : Nat} {Rf_X12_either Rl_X12_either : Nat} {Rf_X12_one Rl_X12_one : Nat} {rc_X12_either : St → Option (Int32 × St)} {rc_X12_one : St → Option (Int32 × St)} (C : FX p s m args meth c RX12 cX12_one 5 g ts A) (hQ : RetI p l e (rk (Rf + 2) (Rl + 41)) s m args below meth c cX12_one g (WM ts a) A r σ' Q) (hrc_X12_either : (Rf_X12_either ≤ Rf ∧ Rl_X12_either ≤ Rl) ∧ ∀ (σ : St) (r : Int32) (u : St), rc_X12_either σ = some (r, u) → ConI l g ts (WM ts a) yX12_either cX12_either 3 (some .int) (rk Rf_X12_either Rl_X12_either) σ [.ref (a 0)] r u) (hrc_X12_one : (Rf_X12_one ≤ Rf ∧ Rl_X12_one ≤ Rl) ∧ ∀ (σ : St) (r : Int32) (u : St), rc_X12_one σ = some (r, u) → ConI l g ts (WM ts a) yX12_one cX12_one 5 (some .int) (rk Rf_X12_one Rl_X12_one) σ [.ref (a 0)] r u) : ∀ (σ : St) (x3 : Int32) (x4 : Int32) (H : Heap) (locs : List Loc) (ls : Array Slot), f_X12_one_b229 rc_X12_either rc_X12_one σ x3 x4 = some (r, σ') → va_P g classes (WM ts a σ) H → va_D A (WM ts a σ) → va_S A s.heap H locs → lv_has ls 5 [(0, .ref (a 0)), (3, .int x3), (4, .int x4)] → W p l e (rk (Rf + 2) (Rl + 41)) s m args below meth c H locs 0 0 Q (F0 m 229 ls []) := by
  have hx := C.1
  have hb := C.2.1
  have hown := C.2.2.2.1
  have hts := C.2.2.2.2.1
  intro σ x3 x4 H locs ls hf hP hD hS hl
  rw [f_X12_one_b229] at hf
  refine lv_iload hx hb dX12_one_229 (lv_at hl 2 rfl) ?_
  refine lv_if_ne (tgt := 241) hx hb dX12_one_231 (by decide) (fun c46 => ?_) (fun c46 => ?_)
  · replace hf := ineg c46 hf
    refine lv_iload_n hx hb dX12_one_241 rfl (lv_at hl 1 rfl) ?_
    exact retI hQ hf dX12_one_242 hP hD hS
  · replace hf := ipos c46 hf
    refine lv_aload_n hx hb dX12_one_234 rfl (lv_at hl 0 rfl) ?_
    obtain ⟨r48, σ49, h47, hf⟩ := bnd2_some hf
    refine vI [] C hP hD hS (c_X12_wrong h47) mv_X12_wrong q_1311 rv_X12 dX12_one_235 ⟨by show 0 + 1 ≤ _ + _; omega, by show 8 + (1 + 11) + 0 ≤ _ + _; omega⟩ ⟨Nat.zero_le _, Nat.zero_le _⟩ rfl rfl (Nat.le_of_ble_eq_true rfl) hl.1 (fun H locs hP hD hS => ?_)
    refine lv_goto (tgt := 242) hx hb dX12_one_238 (by decide) ?_
    exact retI hQ hf dX12_one_242 hP hD hS
set_option maxHeartbeats 4000000 in
set_option maxRecDepth 100000 in
theorem w_X12_one_b176 {p : Program} {l : Launch} {e : Env} {s : State} {m : MethodId} {args : Array Value} {below : List Frame} {meth : Method} {c : Code} {g : va_G} {ts : ClassId × ClassId × ClassId} {A : Nat → Prop} {Q : State → Prop} {a : Nat → Nat} {r : Int32} {σ' : St} {Rf Rl : Nat} {Rf_X12_either Rl_X12_either : Nat} {Rf_X12_one Rl_X12_one : Nat} {rc_X12_either : St → Option (Int32 × St)} {rc_X12_one : St → Option (Int32 × St)} (C : FX p s m args meth c RX12 cX12_one 5 g ts A) (hQ : RetI p l e (rk (Rf + 2) (Rl + 41)) s m args below meth c cX12_one g (WM ts a) A r σ' Q) (hrc_X12_either : (Rf_X12_either ≤ Rf ∧ Rl_X12_either ≤ Rl) ∧ ∀ (σ : St) (r : Int32) (u : St), rc_X12_either σ = some (r, u) → ConI l g ts (WM ts a) yX12_either cX12_either 3 (some .int) (rk Rf_X12_either Rl_X12_either) σ [.ref (a 0)] r u) (hrc_X12_one : (Rf_X12_one ≤ Rf ∧ Rl_X12_one ≤ Rl) ∧ ∀ (σ : St) (r : Int32) (u : St), rc_X12_one σ = some (r, u) → ConI l g ts (WM ts a) yX12_one cX12_one 5 (some .int) (rk Rf_X12_one Rl_X12_one) σ [.ref (a 0)] r u) : ∀ (n : Nat) (σ : St) (x3 : Int32) (x4 : Int32) (H : Heap) (locs : List Loc) (ls : Array Slot), f_X12_one_b176 rc_X12_either rc_X12_one n σ x3 x4 = some (r, σ') → va_P g classes (WM ts a σ) H → va_D A (WM ts a σ) → va_S A s.heap H locs → lv_has ls 5 [(0, .ref (a 0)), (3, .int x3), (4, .int x4)] → W p l e (rk (Rf + 2) (Rl + 41)) s m args below meth c H locs 0 0 Q (F0 m 176 ls []) := by
  have hx := C.1
  have hb := C.2.1
  have hown := C.2.2.2.1
  have hts := C.2.2.2.2.1
  intro n
  induction n with
  | zero =>
    intro σ x3 x4 H locs ls hf
    cases hf
  | succ n ih =>
    intro σ x3 x4 H locs ls hf hP hD hS hl
    rw [f_X12_one_b176] at hf
    refine lv_iload hx hb dX12_one_176 (lv_at hl 2 rfl) ?_
    refine lv_iconst (v := 4) hx hb dX12_one_178 (by decide) ?_
    refine lv_icmp_ge (tgt := 229) hx hb dX12_one_179 (by decide) (fun c24 => ?_) (fun c24 => ?_)
    · replace hf := ipos c24 hf
      exact w_X12_one_b229 C hQ hrc_X12_either hrc_X12_one _ _ _ _ _ _ hf hP hD hS (lv_sub hl [0, 1, 2] rfl)
    · replace hf := ineg c24 hf
      refine lv_aload_n hx hb dX12_one_182 rfl (lv_at hl 0 rfl) ?_
      obtain ⟨r26, σ27, h25, hf⟩ := bnd2_some hf
      refine vI [] C hP hD hS (c_X12_byteAt h25) mv_X12_byteAt q_1307 rv_X12 dX12_one_183 ⟨by show 0 + 1 ≤ _ + _; omega, by show 8 + (1 + 11) + 0 ≤ _ + _; omega⟩ ⟨Nat.zero_le _, Nat.zero_le _⟩ rfl rfl (Nat.le_of_ble_eq_true rfl) hl.1 (fun H locs hP hD hS => ?_)
      refine lv_bipush (v := 48) hx hb dX12_one_186 (by decide) ?_
      refine lv_icmp_lt (tgt := 229) hx hb dX12_one_188 (by decide) (fun c28 => ?_) (fun c28 => ?_)
      · replace hf := ipos c28 hf
        exact w_X12_one_b229 C hQ hrc_X12_either hrc_X12_one _ _ _ _ _ _ hf hP hD hS (lv_sub hl [0, 1, 2] rfl)
      · replace hf := ineg c28 hf
        refine lv_aload_n hx hb dX12_one_191 rfl (lv_at hl 0 rfl) ?_
        obtain ⟨r30, σ31, h29, hf⟩ := bnd2_some hf
        refine vI [] C hP hD hS (c_X12_byteAt h29) mv_X12_byteAt q_1307 rv_X12 dX12_one_192 ⟨by show 0 + 1 ≤ _ + _; omega, by show 8 + (1 + 11) + 0 ≤ _ + _; omega⟩ ⟨Nat.zero_le _, Nat.zero_le _⟩ rfl rfl (Nat.le_of_ble_eq_true rfl) hl.1 (fun H locs hP hD hS => ?_)
        refine lv_bipush (v := 57) hx hb dX12_one_195 (by decide) ?_
        refine lv_icmp_gt (tgt := 229) hx hb dX12_one_197 (by decide) (fun c32 => ?_) (fun c32 => ?_)
        · replace hf := ipos c32 hf
          exact w_X12_one_b229 C hQ hrc_X12_either hrc_X12_one _ _ _ _ _ _ hf hP hD hS (lv_sub hl [0, 1, 2] rfl)
        · replace hf := ineg c32 hf
          refine lv_bipush (v := 10) hx hb dX12_one_200 (by decide) ?_
          refine lv_iload_n hx hb dX12_one_202 rfl (lv_at hl 1 rfl) ?_
          refine lv_imul hx hb dX12_one_203 ?_
          refine lv_aload_n hx hb dX12_one_204 rfl (lv_at hl 0 rfl) ?_
          obtain ⟨r34, σ35, h33, hf⟩ := bnd2_some hf
          refine vI [.int ((10 : Int32) * x3)] C hP hD hS (c_X12_byteAt h33) mv_X12_byteAt q_1307 rv_X12 dX12_one_205 ⟨by show 0 + 1 ≤ _ + _; omega, by show 8 + (1 + 11) + 0 ≤ _ + _; omega⟩ ⟨Nat.zero_le _, Nat.zero_le _⟩ rfl rfl (Nat.le_of_ble_eq_true rfl) hl.1 (fun H locs hP hD hS => ?_)
          refine lv_iadd hx hb dX12_one_208 ?_
          refine lv_bipush (v := 48) hx hb dX12_one_209 (by decide) ?_
          refine lv_isub hx hb dX12_one_211 ?_
          refine lv_topi (fun v36 ev36 => ?_)
          replace hf := bnd_at ev36 hf
          refine lv_istore_n (lv' := [(3, .int v36), (0, .ref (a 0)), (4, .int x4)]) hx hb dX12_one_212 rfl hl (by decide) rfl (fun ls hl => ?_)
          obtain ⟨v37, ev37⟩ : ∃ z : Int32, z = x4 + 1 := ⟨_, rfl⟩
          replace hf := bnd_at ev37 hf
          refine lv_iinc (v := v37) (lv' := [(4, .int v37), (3, .int v36), (0, .ref (a 0))]) hx hb dX12_one_213 hl (k := 2) rfl (by rw [ev37]; rfl) (by decide) rfl (fun ls hl => ?_)
          refine lv_aload_n hx hb dX12_one_216 rfl (lv_at hl 2 rfl) ?_
          refine lv_dup hx hb dX12_one_217 rfl ?_
          refine G_X12_at C hP q_1086 dX12_one_218 ?_
          refine lv_iconst (v := 1) hx hb dX12_one_221 (by decide) ?_
          refine lv_iadd hx hb dX12_one_222 ?_
          refine S_X12_at C hP hD hS q_1086 dX12_one_223 (fun H locs hP hD hS => ?_)
          refine lv_goto (tgt := 176) hx hb dX12_one_226 (by decide) ?_
          exact ih _ _ _ _ _ _ hf hP hD hS (lv_sub hl [2, 1, 0] rfl)
set_option maxHeartbeats 4000000 in
set_option maxRecDepth 100000 in
theorem c_X12_one1 {l : Launch} {g : va_G} {ts : ClassId × ClassId × ClassId} {a : Nat → Nat} {σ : St} {r : Int32} {σ' : St} {Rf Rl : Nat} {Rf_X12_either Rl_X12_either : Nat} {Rf_X12_one Rl_X12_one : Nat} {rc_X12_either : St → Option (Int32 × St)} {rc_X12_one : St → Option (Int32 × St)} (hrc_X12_either : (Rf_X12_either ≤ Rf ∧ Rl_X12_either ≤ Rl) ∧ ∀ (σ : St) (r : Int32) (u : St), rc_X12_either σ = some (r, u) → ConI l g ts (WM ts a) yX12_either cX12_either 3 (some .int) (rk Rf_X12_either Rl_X12_either) σ [.ref (a 0)] r u) (hrc_X12_one : (Rf_X12_one ≤ Rf ∧ Rl_X12_one ≤ Rl) ∧ ∀ (σ : St) (r : Int32) (u : St), rc_X12_one σ = some (r, u) → ConI l g ts (WM ts a) yX12_one cX12_one 5 (some .int) (rk Rf_X12_one Rl_X12_one) σ [.ref (a 0)] r u) (hf : f_X12_one1 rc_X12_either rc_X12_one σ = some (r, σ')) : ConI l g ts (WM ts a) yX12_one cX12_one 5 (some .int) (rk (Rf + 2) (Rl + 41)) σ [.ref (a 0)] r σ' := by
  refine ConI_mk .int rfl rfl rfl rfl (by decide) (Nat.le_of_ble_eq_true rfl) ?_
  intro p e s m below meth c A Q ls C hQ hP hD hS hl
  have C : FX p s m _ meth c RX12 cX12_one 5 g ts A := C
  have hx := C.1
  have hb := C.2.1
  have hown := C.2.2.2.1
  have hts := C.2.2.2.2.1
  have hl : lv_has ls 5 [(0, .ref (a 0))] := hl
  rw [f_X12_one1] at hf
  refine lv_aload_n hx hb dX12_one_0 rfl (lv_at hl 0 rfl) ?_
  refine G_X12_fault C hP q_1088 dX12_one_1 ?_
  refine lv_if_lt (tgt := 9) hx hb dX12_one_4 (by decide) (fun c1 => ?_) (fun c1 => ?_)
  · replace hf := ipos c1 hf
    refine lv_aload_n hx hb dX12_one_9 rfl (lv_at hl 0 rfl) ?_
    obtain ⟨r3, σ4, h2, hf⟩ := bnd2_some hf
    refine vI [] C hP hD hS (c_X12_byteAt h2) mv_X12_byteAt q_1307 rv_X12 dX12_one_10 ⟨by show 0 + 1 ≤ _ + _; omega, by show 8 + (1 + 11) + 0 ≤ _ + _; omega⟩ ⟨Nat.zero_le _, Nat.zero_le _⟩ rfl rfl (Nat.le_of_ble_eq_true rfl) hl.1 (fun H locs hP hD hS => ?_)
    refine lv_istore_n (lv' := [(1, .int r3), (0, .ref (a 0))]) hx hb dX12_one_13 rfl hl (by decide) rfl (fun ls hl => ?_)
    refine lv_iload_n hx hb dX12_one_14 rfl (lv_at hl 0 rfl) ?_
    refine lv_bipush (v := 33) hx hb dX12_one_15 (by decide) ?_
    refine lv_icmp_eq (tgt := 32) hx hb dX12_one_17 (by decide) (fun c5 => ?_) (fun c5 => ?_)
    · replace hf := ipos c5 hf
      exact w_X12_one_b32 C hQ hrc_X12_either hrc_X12_one _ _ _ _ _ hf hP hD hS (lv_sub hl [1, 0] rfl)
    · replace hf := ineg c5 hf
      refine lv_iload_n hx hb dX12_one_20 rfl (lv_at hl 0 rfl) ?_
      refine lv_bipush (v := 45) hx hb dX12_one_21 (by decide) ?_
      refine lv_icmp_eq (tgt := 32) hx hb dX12_one_23 (by decide) (fun c6 => ?_) (fun c6 => ?_)
      · replace hf := ipos c6 hf
        exact w_X12_one_b32 C hQ hrc_X12_either hrc_X12_one _ _ _ _ _ hf hP hD hS (lv_sub hl [1, 0] rfl)
      · replace hf := ineg c6 hf
        refine lv_iload_n hx hb dX12_one_26 rfl (lv_at hl 0 rfl) ?_
        refine lv_bipush (v := 40) hx hb dX12_one_27 (by decide) ?_
        refine lv_icmp_ne (tgt := 145) hx hb dX12_one_29 (by decide) (fun c7 => ?_) (fun c7 => ?_)
        · replace hf := ineg c7 hf
          refine lv_iload_n hx hb dX12_one_145 rfl (lv_at hl 0 rfl) ?_
          obtain ⟨r9, h8, hf⟩ := bnd1_some hf
          refine tI [] C hP hD hS (c_X12_nameOf h8) ms_X12_nameOf q_1319 dX12_one_146 ⟨by show 0 + 1 ≤ _ + _; omega, by show 8 + (1 + 11) + 0 ≤ _ + _; omega⟩ ⟨Nat.zero_le _, Nat.zero_le _⟩ rfl rfl (Nat.le_of_ble_eq_true rfl) hl.1 (fun H locs hP hD hS => ?_)
          refine lv_istore_n (lv' := [(2, .int r9), (1, .int r3), (0, .ref (a 0))]) hx hb dX12_one_149 rfl hl (by decide) rfl (fun ls hl => ?_)
          refine lv_iload_n hx hb dX12_one_150 rfl (lv_at hl 0 rfl) ?_
          refine lv_if_lt (tgt := 171) hx hb dX12_one_151 (by decide) (fun c10 => ?_) (fun c10 => ?_)
          · replace hf := ipos c10 hf
            refine lv_iconst (v := 0) hx hb dX12_one_171 (by decide) ?_
            refine lv_istore_n (lv' := [(3, .int (0 : Int32)), (2, .int r9), (1, .int r3), (0, .ref (a 0))]) hx hb dX12_one_172 rfl hl (by decide) rfl (fun ls hl => ?_)
            refine lv_iconst (v := 0) hx hb dX12_one_173 (by decide) ?_
            refine lv_istore (lv' := [(4, .int (0 : Int32)), (3, .int (0 : Int32)), (2, .int r9), (1, .int r3), (0, .ref (a 0))]) hx hb dX12_one_174 hl (by decide) rfl (fun ls hl => ?_)
            exact w_X12_one_b176 C hQ hrc_X12_either hrc_X12_one 256 _ _ _ _ _ _ hf hP hD hS (lv_sub hl [4, 1, 0] rfl)
          · replace hf := ineg c10 hf
            refine lv_aload_n hx hb dX12_one_154 rfl (lv_at hl 2 rfl) ?_
            refine lv_dup hx hb dX12_one_155 rfl ?_
            refine G_X12_at C hP q_1086 dX12_one_156 ?_
            refine lv_iconst (v := 1) hx hb dX12_one_159 (by decide) ?_
            refine lv_iadd hx hb dX12_one_160 ?_
            refine S_X12_at C hP hD hS q_1086 dX12_one_161 (fun H locs hP hD hS => ?_)
            refine lv_aload_n hx hb dX12_one_164 rfl (lv_at hl 2 rfl) ?_
            refine G_X12_names C hP q_1090 dX12_one_165 ?_
            refine lv_iload_n hx hb dX12_one_168 rfl (lv_at hl 0 rfl) ?_
            obtain ⟨h11, hf⟩ := chk_some hf
            refine AL_X12_names C hP h11 dX12_one_169 ?_
            exact retI hQ hf dX12_one_170 hP hD hS
        · replace hf := ipos c7 hf
          exact w_X12_one_b32 C hQ hrc_X12_either hrc_X12_one _ _ _ _ _ hf hP hD hS (lv_sub hl [1, 0] rfl)
  · replace hf := ineg c1 hf
    refine lv_iconst (v := 0) hx hb dX12_one_7 (by decide) ?_
    exact retI hQ hf dX12_one_8 hP hD hS
