theorem mv_X12_saysAs : MV yX12_saysAs cX12_saysAs 3 (some .int) 2 := ⟨q_1531, q_50, q_71, q_1532, by decide +kernel, by decide +kernel, by decide +kernel⟩
theorem dX12_saysAs_0 : decode cX12_saysAs 0 = .ok (.iload_n 1, 1) := by decide +kernel
theorem dX12_saysAs_1 : decode cX12_saysAs 1 = .ok (.iconst 1, 1) := by decide +kernel
theorem dX12_saysAs_2 : decode cX12_saysAs 2 = .ok (.if_icmp .eq 14, 3) := by decide +kernel
theorem dX12_saysAs_5 : decode cX12_saysAs 5 = .ok (.iload_n 1, 1) := by decide +kernel
theorem dX12_saysAs_6 : decode cX12_saysAs 6 = .ok (.iconst 4, 1) := by decide +kernel
theorem dX12_saysAs_7 : decode cX12_saysAs 7 = .ok (.if_icmp .eq 9, 3) := by decide +kernel
theorem dX12_saysAs_10 : decode cX12_saysAs 10 = .ok (.iload_n 1, 1) := by decide +kernel
theorem dX12_saysAs_11 : decode cX12_saysAs 11 = .ok (.bipush 7, 2) := by decide +kernel
theorem dX12_saysAs_13 : decode cX12_saysAs 13 = .ok (.if_icmp .ne 18, 3) := by decide +kernel
theorem dX12_saysAs_16 : decode cX12_saysAs 16 = .ok (.aload_n 0, 1) := by decide +kernel
theorem dX12_saysAs_17 : decode cX12_saysAs 17 = .ok (.bipush 20, 2) := by decide +kernel
theorem dX12_saysAs_19 : decode cX12_saysAs 19 = .ok (.invokevirtual 313, 3) := by decide +kernel
theorem dX12_saysAs_22 : decode cX12_saysAs 22 = .ok (.aload_n 0, 1) := by decide +kernel
theorem dX12_saysAs_23 : decode cX12_saysAs 23 = .ok (.iconst 0, 1) := by decide +kernel
theorem dX12_saysAs_24 : decode cX12_saysAs 24 = .ok (.iload_n 2, 1) := by decide +kernel
theorem dX12_saysAs_25 : decode cX12_saysAs 25 = .ok (.invokevirtual 317, 3) := by decide +kernel
theorem dX12_saysAs_28 : decode cX12_saysAs 28 = .ok (.iconst 3, 1) := by decide +kernel
theorem dX12_saysAs_29 : decode cX12_saysAs 29 = .ok (.iadd, 1) := by decide +kernel
theorem dX12_saysAs_30 : decode cX12_saysAs 30 = .ok (.ireturn, 1) := by decide +kernel
theorem dX12_saysAs_31 : decode cX12_saysAs 31 = .ok (.iload_n 1, 1) := by decide +kernel
theorem dX12_saysAs_32 : decode cX12_saysAs 32 = .ok (.bipush 6, 2) := by decide +kernel
theorem dX12_saysAs_34 : decode cX12_saysAs 34 = .ok (.if_icmp .ne 18, 3) := by decide +kernel
theorem dX12_saysAs_37 : decode cX12_saysAs 37 = .ok (.aload_n 0, 1) := by decide +kernel
theorem dX12_saysAs_38 : decode cX12_saysAs 38 = .ok (.bipush 70, 2) := by decide +kernel
theorem dX12_saysAs_40 : decode cX12_saysAs 40 = .ok (.invokevirtual 313, 3) := by decide +kernel
theorem dX12_saysAs_43 : decode cX12_saysAs 43 = .ok (.aload_n 0, 1) := by decide +kernel
theorem dX12_saysAs_44 : decode cX12_saysAs 44 = .ok (.iconst 0, 1) := by decide +kernel
theorem dX12_saysAs_45 : decode cX12_saysAs 45 = .ok (.iload_n 2, 1) := by decide +kernel
theorem dX12_saysAs_46 : decode cX12_saysAs 46 = .ok (.invokevirtual 317, 3) := by decide +kernel
theorem dX12_saysAs_49 : decode cX12_saysAs 49 = .ok (.iconst 2, 1) := by decide +kernel
theorem dX12_saysAs_50 : decode cX12_saysAs 50 = .ok (.imul, 1) := by decide +kernel
theorem dX12_saysAs_51 : decode cX12_saysAs 51 = .ok (.ireturn, 1) := by decide +kernel
theorem dX12_saysAs_52 : decode cX12_saysAs 52 = .ok (.aload_n 0, 1) := by decide +kernel
theorem dX12_saysAs_53 : decode cX12_saysAs 53 = .ok (.iconst 1, 1) := by decide +kernel
theorem dX12_saysAs_54 : decode cX12_saysAs 54 = .ok (.invokevirtual 313, 3) := by decide +kernel
theorem dX12_saysAs_57 : decode cX12_saysAs 57 = .ok (.iload_n 2, 1) := by decide +kernel
theorem dX12_saysAs_58 : decode cX12_saysAs 58 = .ok (.aload_n 0, 1) := by decide +kernel
theorem dX12_saysAs_59 : decode cX12_saysAs 59 = .ok (.getfield 320, 3) := by decide +kernel
theorem dX12_saysAs_62 : decode cX12_saysAs 62 = .ok (.iadd, 1) := by decide +kernel
theorem dX12_saysAs_63 : decode cX12_saysAs 63 = .ok (.ireturn, 1) := by decide +kernel
def f_X12_saysAs_b16 (rc_X12_saysAs : St → Int32 → Int32 → Option (Int32 × St)) (σ : St) (x2 : Int32) : Option (Int32 × St) := bnd1 (f_X12_begins σ (20 : Int32)) (fun σ13 => bnd2 (rc_X12_saysAs σ13 (0 : Int32) x2) (fun r15 σ16 => some (r15 + (3 : Int32), σ16)))
def f_X12_saysAs1 (rc_X12_saysAs : St → Int32 → Int32 → Option (Int32 × St)) (σ : St) (p1 : Int32) (p2 : Int32) : Option (Int32 × St) := if p1 = (1 : Int32) then (f_X12_saysAs_b16 rc_X12_saysAs σ p2) else (if p1 = (4 : Int32) then (f_X12_saysAs_b16 rc_X12_saysAs σ p2) else (if p1 = (7 : Int32) then (f_X12_saysAs_b16 rc_X12_saysAs σ p2) else (if p1 = (6 : Int32) then (bnd1 (f_X12_begins σ (70 : Int32)) (fun σ8 => bnd2 (rc_X12_saysAs σ8 (0 : Int32) p2) (fun r10 σ11 => some (r10 * (2 : Int32), σ11)))) else (bnd1 (f_X12_begins σ (1 : Int32)) (fun σ6 => some (p2 + (σ6.1 638 0), σ6))))))
set_option maxHeartbeats 4000000 in
set_option maxRecDepth 100000 in
theorem w_X12_saysAs_b16 {p : Program} {l : Launch} {e : Env} {s : State} {m : MethodId} {args : Array Value} {below : List Frame} {meth : Method} {c : Code} {g : va_G} {ts : ClassId × ClassId × ClassId} {A : Nat → Prop} {Q : State → Prop} {a : Nat → Nat} {r : Int32} {σ' : St} {Rf Rl : Nat} {Rf_X12_saysAs Rl_X12_saysAs : Nat} {rc_X12_saysAs : St → Int32 → Int32 → Option (Int32 × St)} (C : FX p s m args meth c RX12 cX12_saysAs 3 g ts A) (hQ : RetI p l e (rk (Rf + 1) (Rl + 22)) s m args below meth c cX12_saysAs g (WM ts a) A r σ' Q) (hrc_X12_saysAs : (Rf_X12_saysAs ≤ Rf ∧ Rl_X12_saysAs ≤ Rl) ∧ ∀ (σ : St) (p1 : Int32) (p2 : Int32) (r : Int32) (u : St), rc_X12_saysAs σ p1 p2 = some (r, u) → ConI l g ts (WM ts a) yX12_saysAs cX12_saysAs 3 (some .int) (rk Rf_X12_saysAs Rl_X12_saysAs) σ [.ref (a 0), .int p1, .int p2] r u) : ∀ (σ : St) (x2 : Int32) (H : Heap) (locs : List Loc) (ls : Array Slot), f_X12_saysAs_b16 rc_X12_saysAs σ x2 = some (r, σ') → va_P g classes (WM ts a σ) H → va_D A (WM ts a σ) → va_S A s.heap H locs → lv_has ls 3 [(0, .ref (a 0)), (2, .int x2)] → W p l e (rk (Rf + 1) (Rl + 22)) s m args below meth c H locs 0 0 Q (F0 m 16 ls []) := by
  have hx := C.1
  have hb := C.2.1
  have hown := C.2.2.2.1
  have hts := C.2.2.2.2.1
  intro σ x2 H locs ls hf hP hD hS hl
  rw [f_X12_saysAs_b16] at hf
  refine lv_aload_n hx hb dX12_saysAs_16 rfl (lv_at hl 0 rfl) ?_
  refine lv_bipush (v := 20) hx hb dX12_saysAs_17 (by decide) ?_
  obtain ⟨σ13, h12, hf⟩ := bnd1_some hf
  refine vV [] C hP hD hS (c_X12_begins h12) mv_X12_begins q_1533 rv_X12 dX12_saysAs_19 ⟨by show 0 + 1 ≤ _ + _; omega, by show 8 + (2 + 11) + 0 ≤ _ + _; omega⟩ ⟨Nat.zero_le _, Nat.zero_le _⟩ rfl rfl (Nat.le_of_ble_eq_true rfl) hl.1 (fun H locs hP hD hS => ?_)
  refine lv_aload_n hx hb dX12_saysAs_22 rfl (lv_at hl 0 rfl) ?_
  refine lv_iconst (v := 0) hx hb dX12_saysAs_23 (by decide) ?_
  refine lv_iload_n hx hb dX12_saysAs_24 rfl (lv_at hl 1 rfl) ?_
  obtain ⟨r15, σ16, h14, hf⟩ := bnd2_some hf
  refine vI [] C hP hD hS (hrc_X12_saysAs.2 _ _ _ _ _  h14) mv_X12_saysAs q_1529 rv_X12 dX12_saysAs_25 ⟨by have hz := hrc_X12_saysAs.1; show Rf_X12_saysAs + 1 ≤ Rf + _; omega, by have hz := hrc_X12_saysAs.1; show 8 + (3 + 11) + Rl_X12_saysAs ≤ Rl + _; omega⟩ ⟨Nat.zero_le _, Nat.zero_le _⟩ rfl rfl (Nat.le_of_ble_eq_true rfl) hl.1 (fun H locs hP hD hS => ?_)
  refine lv_iconst (v := 3) hx hb dX12_saysAs_28 (by decide) ?_
  refine lv_iadd hx hb dX12_saysAs_29 ?_
  exact retI hQ hf dX12_saysAs_30 hP hD hS
set_option maxHeartbeats 4000000 in
set_option maxRecDepth 100000 in
theorem c_X12_saysAs1 {l : Launch} {g : va_G} {ts : ClassId × ClassId × ClassId} {a : Nat → Nat} {σ : St} {p1 : Int32} {p2 : Int32} {r : Int32} {σ' : St} {Rf Rl : Nat} {Rf_X12_saysAs Rl_X12_saysAs : Nat} {rc_X12_saysAs : St → Int32 → Int32 → Option (Int32 × St)} (hrc_X12_saysAs : (Rf_X12_saysAs ≤ Rf ∧ Rl_X12_saysAs ≤ Rl) ∧ ∀ (σ : St) (p1 : Int32) (p2 : Int32) (r : Int32) (u : St), rc_X12_saysAs σ p1 p2 = some (r, u) → ConI l g ts (WM ts a) yX12_saysAs cX12_saysAs 3 (some .int) (rk Rf_X12_saysAs Rl_X12_saysAs) σ [.ref (a 0), .int p1, .int p2] r u) (hf : f_X12_saysAs1 rc_X12_saysAs σ p1 p2 = some (r, σ')) : ConI l g ts (WM ts a) yX12_saysAs cX12_saysAs 3 (some .int) (rk (Rf + 1) (Rl + 22)) σ [.ref (a 0), .int p1, .int p2] r σ' := by
  refine ConI_mk .int rfl rfl rfl rfl (by decide) (Nat.le_of_ble_eq_true rfl) ?_
  intro p e s m below meth c A Q ls C hQ hP hD hS hl
  have C : FX p s m _ meth c RX12 cX12_saysAs 3 g ts A := C
  have hx := C.1
  have hb := C.2.1
  have hown := C.2.2.2.1
  have hts := C.2.2.2.2.1
  have hl : lv_has ls 3 [(0, .ref (a 0)), (1, .int p1), (2, .int p2)] := hl
  rw [f_X12_saysAs1] at hf
  refine lv_iload_n hx hb dX12_saysAs_0 rfl (lv_at hl 1 rfl) ?_
  refine lv_iconst (v := 1) hx hb dX12_saysAs_1 (by decide) ?_
  refine lv_icmp_eq (tgt := 16) hx hb dX12_saysAs_2 (by decide) (fun c1 => ?_) (fun c1 => ?_)
  · replace hf := ipos c1 hf
    exact w_X12_saysAs_b16 C hQ hrc_X12_saysAs _ _ _ _ _ hf hP hD hS (lv_sub hl [0, 2] rfl)
  · replace hf := ineg c1 hf
    refine lv_iload_n hx hb dX12_saysAs_5 rfl (lv_at hl 1 rfl) ?_
    refine lv_iconst (v := 4) hx hb dX12_saysAs_6 (by decide) ?_
    refine lv_icmp_eq (tgt := 16) hx hb dX12_saysAs_7 (by decide) (fun c2 => ?_) (fun c2 => ?_)
    · replace hf := ipos c2 hf
      exact w_X12_saysAs_b16 C hQ hrc_X12_saysAs _ _ _ _ _ hf hP hD hS (lv_sub hl [0, 2] rfl)
    · replace hf := ineg c2 hf
      refine lv_iload_n hx hb dX12_saysAs_10 rfl (lv_at hl 1 rfl) ?_
      refine lv_bipush (v := 7) hx hb dX12_saysAs_11 (by decide) ?_
      refine lv_icmp_ne (tgt := 31) hx hb dX12_saysAs_13 (by decide) (fun c3 => ?_) (fun c3 => ?_)
      · replace hf := ineg c3 hf
        refine lv_iload_n hx hb dX12_saysAs_31 rfl (lv_at hl 1 rfl) ?_
        refine lv_bipush (v := 6) hx hb dX12_saysAs_32 (by decide) ?_
        refine lv_icmp_ne (tgt := 52) hx hb dX12_saysAs_34 (by decide) (fun c4 => ?_) (fun c4 => ?_)
        · replace hf := ineg c4 hf
          refine lv_aload_n hx hb dX12_saysAs_52 rfl (lv_at hl 0 rfl) ?_
          refine lv_iconst (v := 1) hx hb dX12_saysAs_53 (by decide) ?_
          obtain ⟨σ6, h5, hf⟩ := bnd1_some hf
          refine vV [] C hP hD hS (c_X12_begins h5) mv_X12_begins q_1533 rv_X12 dX12_saysAs_54 ⟨by show 0 + 1 ≤ _ + _; omega, by show 8 + (2 + 11) + 0 ≤ _ + _; omega⟩ ⟨Nat.zero_le _, Nat.zero_le _⟩ rfl rfl (Nat.le_of_ble_eq_true rfl) hl.1 (fun H locs hP hD hS => ?_)
          refine lv_iload_n hx hb dX12_saysAs_57 rfl (lv_at hl 2 rfl) ?_
          refine lv_aload_n hx hb dX12_saysAs_58 rfl (lv_at hl 0 rfl) ?_
          refine G_X12_ownNumber C hP q_1110 dX12_saysAs_59 ?_
          refine lv_iadd hx hb dX12_saysAs_62 ?_
          exact retI hQ hf dX12_saysAs_63 hP hD hS
        · replace hf := ipos c4 hf
          refine lv_aload_n hx hb dX12_saysAs_37 rfl (lv_at hl 0 rfl) ?_
          refine lv_bipush (v := 70) hx hb dX12_saysAs_38 (by decide) ?_
          obtain ⟨σ8, h7, hf⟩ := bnd1_some hf
          refine vV [] C hP hD hS (c_X12_begins h7) mv_X12_begins q_1533 rv_X12 dX12_saysAs_40 ⟨by show 0 + 1 ≤ _ + _; omega, by show 8 + (2 + 11) + 0 ≤ _ + _; omega⟩ ⟨Nat.zero_le _, Nat.zero_le _⟩ rfl rfl (Nat.le_of_ble_eq_true rfl) hl.1 (fun H locs hP hD hS => ?_)
          refine lv_aload_n hx hb dX12_saysAs_43 rfl (lv_at hl 0 rfl) ?_
          refine lv_iconst (v := 0) hx hb dX12_saysAs_44 (by decide) ?_
          refine lv_iload_n hx hb dX12_saysAs_45 rfl (lv_at hl 2 rfl) ?_
          obtain ⟨r10, σ11, h9, hf⟩ := bnd2_some hf
          refine vI [] C hP hD hS (hrc_X12_saysAs.2 _ _ _ _ _  h9) mv_X12_saysAs q_1529 rv_X12 dX12_saysAs_46 ⟨by have hz := hrc_X12_saysAs.1; show Rf_X12_saysAs + 1 ≤ Rf + _; omega, by have hz := hrc_X12_saysAs.1; show 8 + (3 + 11) + Rl_X12_saysAs ≤ Rl + _; omega⟩ ⟨Nat.zero_le _, Nat.zero_le _⟩ rfl rfl (Nat.le_of_ble_eq_true rfl) hl.1 (fun H locs hP hD hS => ?_)
          refine lv_iconst (v := 2) hx hb dX12_saysAs_49 (by decide) ?_
          refine lv_imul hx hb dX12_saysAs_50 ?_
          exact retI hQ hf dX12_saysAs_51 hP hD hS
      · replace hf := ipos c3 hf
        exact w_X12_saysAs_b16 C hQ hrc_X12_saysAs _ _ _ _ _ hf hP hD hS (lv_sub hl [0, 2] rfl)
def f_X12_saysAs_n : Nat → St → Int32 → Int32 → Option (Int32 × St)
  | 0, _, _, _ => none
  | n + 1, σ, p1, p2 => f_X12_saysAs1 (f_X12_saysAs_n n) σ p1 p2
theorem c_X12_saysAs_n {l : Launch} {g : va_G} {ts : ClassId × ClassId × ClassId} {a : Nat → Nat} : ∀ (n : Nat) (σ : St) (p1 : Int32) (p2 : Int32) (r : Int32) (u : St), f_X12_saysAs_n n σ p1 p2 = some (r, u) → ConI l g ts (WM ts a) yX12_saysAs cX12_saysAs 3 (some .int) (rk (1 * n) (22 * n)) σ [.ref (a 0), .int p1, .int p2] r u := by
  intro n
  induction n with
  | zero => intro σ p1 p2 r u hf; cases hf
  | succ n ih => intro σ p1 p2 r u hf; exact c_X12_saysAs1 (Rf := 1 * n) (Rl := 22 * n) (Rf_X12_saysAs := 1 * n) (Rl_X12_saysAs := 22 * n) ⟨⟨Nat.le_refl _, Nat.le_refl _⟩, ih⟩ hf
def f_X12_saysAs (σ : St) (p1 : Int32) (p2 : Int32) : Option (Int32 × St) := f_X12_saysAs_n 5 σ p1 p2
theorem c_X12_saysAs {l : Launch} {g : va_G} {ts : ClassId × ClassId × ClassId} {a : Nat → Nat} {σ : St} {p1 : Int32} {p2 : Int32} {r : Int32} {u : St} (hf : f_X12_saysAs σ p1 p2 = some (r, u)) : ConI l g ts (WM ts a) yX12_saysAs cX12_saysAs 3 (some .int) (rk 5 110) σ [.ref (a 0), .int p1, .int p2] r u := c_X12_saysAs_n 5 σ p1 p2 r u hf
theorem mv_X12_asksAs : MV yX12_asksAs cX12_asksAs 4 (some .int) 2 := ⟨q_1543, q_53, q_71, q_1544, by decide +kernel, by decide +kernel, by decide +kernel⟩
theorem dX12_asksAs_0 : decode cX12_asksAs 0 = .ok (.iload_n 1, 1) := by decide +kernel
theorem dX12_asksAs_1 : decode cX12_asksAs 1 = .ok (.iconst 3, 1) := by decide +kernel
theorem dX12_asksAs_2 : decode cX12_asksAs 2 = .ok (.if_icmp .eq 8, 3) := by decide +kernel
theorem dX12_asksAs_5 : decode cX12_asksAs 5 = .ok (.iload_n 1, 1) := by decide +kernel
theorem dX12_asksAs_6 : decode cX12_asksAs 6 = .ok (.iconst 5, 1) := by decide +kernel
theorem dX12_asksAs_7 : decode cX12_asksAs 7 = .ok (.if_icmp .ne 18, 3) := by decide +kernel
theorem dX12_asksAs_10 : decode cX12_asksAs 10 = .ok (.aload_n 0, 1) := by decide +kernel
theorem dX12_asksAs_11 : decode cX12_asksAs 11 = .ok (.bipush 40, 2) := by decide +kernel
theorem dX12_asksAs_13 : decode cX12_asksAs 13 = .ok (.invokevirtual 313, 3) := by decide +kernel
theorem dX12_asksAs_16 : decode cX12_asksAs 16 = .ok (.aload_n 0, 1) := by decide +kernel
theorem dX12_asksAs_17 : decode cX12_asksAs 17 = .ok (.iconst 2, 1) := by decide +kernel
theorem dX12_asksAs_18 : decode cX12_asksAs 18 = .ok (.iload_n 2, 1) := by decide +kernel
theorem dX12_asksAs_19 : decode cX12_asksAs 19 = .ok (.invokevirtual 329, 3) := by decide +kernel
theorem dX12_asksAs_22 : decode cX12_asksAs 22 = .ok (.iconst 3, 1) := by decide +kernel
theorem dX12_asksAs_23 : decode cX12_asksAs 23 = .ok (.imul, 1) := by decide +kernel
theorem dX12_asksAs_24 : decode cX12_asksAs 24 = .ok (.ireturn, 1) := by decide +kernel
theorem dX12_asksAs_25 : decode cX12_asksAs 25 = .ok (.iload_n 1, 1) := by decide +kernel
theorem dX12_asksAs_26 : decode cX12_asksAs 26 = .ok (.iconst 4, 1) := by decide +kernel
theorem dX12_asksAs_27 : decode cX12_asksAs 27 = .ok (.if_icmp .eq 9, 3) := by decide +kernel
theorem dX12_asksAs_30 : decode cX12_asksAs 30 = .ok (.iload_n 1, 1) := by decide +kernel
theorem dX12_asksAs_31 : decode cX12_asksAs 31 = .ok (.bipush 7, 2) := by decide +kernel
theorem dX12_asksAs_33 : decode cX12_asksAs 33 = .ok (.if_icmp .ne 28, 3) := by decide +kernel
theorem dX12_asksAs_36 : decode cX12_asksAs 36 = .ok (.aload_n 0, 1) := by decide +kernel
theorem dX12_asksAs_37 : decode cX12_asksAs 37 = .ok (.bipush 50, 2) := by decide +kernel
theorem dX12_asksAs_39 : decode cX12_asksAs 39 = .ok (.invokevirtual 313, 3) := by decide +kernel
theorem dX12_asksAs_42 : decode cX12_asksAs 42 = .ok (.aload_n 0, 1) := by decide +kernel
theorem dX12_asksAs_43 : decode cX12_asksAs 43 = .ok (.iconst 1, 1) := by decide +kernel
theorem dX12_asksAs_44 : decode cX12_asksAs 44 = .ok (.iload_n 2, 1) := by decide +kernel
theorem dX12_asksAs_45 : decode cX12_asksAs 45 = .ok (.invokevirtual 329, 3) := by decide +kernel
theorem dX12_asksAs_48 : decode cX12_asksAs 48 = .ok (.istore_n 3, 1) := by decide +kernel
theorem dX12_asksAs_49 : decode cX12_asksAs 49 = .ok (.iload_n 3, 1) := by decide +kernel
theorem dX12_asksAs_50 : decode cX12_asksAs 50 = .ok (.aload_n 0, 1) := by decide +kernel
theorem dX12_asksAs_51 : decode cX12_asksAs 51 = .ok (.aload_n 0, 1) := by decide +kernel
theorem dX12_asksAs_52 : decode cX12_asksAs 52 = .ok (.getfield 326, 3) := by decide +kernel
theorem dX12_asksAs_55 : decode cX12_asksAs 55 = .ok (.iconst 2, 1) := by decide +kernel
theorem dX12_asksAs_56 : decode cX12_asksAs 56 = .ok (.invokevirtual 317, 3) := by decide +kernel
theorem dX12_asksAs_59 : decode cX12_asksAs 59 = .ok (.isub, 1) := by decide +kernel
theorem dX12_asksAs_60 : decode cX12_asksAs 60 = .ok (.ireturn, 1) := by decide +kernel
theorem dX12_asksAs_61 : decode cX12_asksAs 61 = .ok (.aload_n 0, 1) := by decide +kernel
theorem dX12_asksAs_62 : decode cX12_asksAs 62 = .ok (.bipush 11, 2) := by decide +kernel
theorem dX12_asksAs_64 : decode cX12_asksAs 64 = .ok (.invokevirtual 313, 3) := by decide +kernel
theorem dX12_asksAs_67 : decode cX12_asksAs 67 = .ok (.iload_n 2, 1) := by decide +kernel
theorem dX12_asksAs_68 : decode cX12_asksAs 68 = .ok (.aload_n 0, 1) := by decide +kernel
theorem dX12_asksAs_69 : decode cX12_asksAs 69 = .ok (.getfield 320, 3) := by decide +kernel
theorem dX12_asksAs_72 : decode cX12_asksAs 72 = .ok (.ixor, 1) := by decide +kernel
theorem dX12_asksAs_73 : decode cX12_asksAs 73 = .ok (.ireturn, 1) := by decide +kernel
def f_X12_asksAs_b10 (rc_X12_asksAs : St → Int32 → Int32 → Option (Int32 × St)) (σ : St) (x2 : Int32) : Option (Int32 × St) := bnd1 (f_X12_begins σ (40 : Int32)) (fun σ8 => bnd2 (rc_X12_asksAs σ8 (2 : Int32) x2) (fun r10 σ11 => some (r10 * (3 : Int32), σ11)))
def f_X12_asksAs_b36 (rc_X12_asksAs : St → Int32 → Int32 → Option (Int32 × St)) (σ : St) (x2 : Int32) : Option (Int32 × St) := bnd1 (f_X12_begins σ (50 : Int32)) (fun σ13 => bnd2 (rc_X12_asksAs σ13 (1 : Int32) x2) (fun r15 σ16 => bnd2 (f_X12_saysAs σ16 (σ16.1 637 0) (2 : Int32)) (fun r18 σ19 => some (r15 - r18, σ19))))
def f_X12_asksAs1 (rc_X12_asksAs : St → Int32 → Int32 → Option (Int32 × St)) (σ : St) (p1 : Int32) (p2 : Int32) : Option (Int32 × St) := if p1 = (3 : Int32) then (f_X12_asksAs_b10 rc_X12_asksAs σ p2) else (if p1 = (5 : Int32) then (f_X12_asksAs_b10 rc_X12_asksAs σ p2) else (if p1 = (4 : Int32) then (f_X12_asksAs_b36 rc_X12_asksAs σ p2) else (if p1 = (7 : Int32) then (f_X12_asksAs_b36 rc_X12_asksAs σ p2) else (bnd1 (f_X12_begins σ (11 : Int32)) (fun σ6 => some (p2 ^^^ (σ6.1 638 0), σ6))))))
set_option maxHeartbeats 4000000 in
set_option maxRecDepth 100000 in
theorem w_X12_asksAs_b10 {p : Program} {l : Launch} {e : Env} {s : State} {m : MethodId} {args : Array Value} {below : List Frame} {meth : Method} {c : Code} {g : va_G} {ts : ClassId × ClassId × ClassId} {A : Nat → Prop} {Q : State → Prop} {a : Nat → Nat} {r : Int32} {σ' : St} {Rf Rl : Nat} {Rf_X12_asksAs Rl_X12_asksAs : Nat} {rc_X12_asksAs : St → Int32 → Int32 → Option (Int32 × St)} (C : FX p s m args meth c RX12 cX12_asksAs 4 g ts A) (hQ : RetI p l e (rk (Rf + 6) (Rl + 132)) s m args below meth c cX12_asksAs g (WM ts a) A r σ' Q) (hrc_X12_asksAs : (Rf_X12_asksAs ≤ Rf ∧ Rl_X12_asksAs ≤ Rl) ∧ ∀ (σ : St) (p1 : Int32) (p2 : Int32) (r : Int32) (u : St), rc_X12_asksAs σ p1 p2 = some (r, u) → ConI l g ts (WM ts a) yX12_asksAs cX12_asksAs 4 (some .int) (rk Rf_X12_asksAs Rl_X12_asksAs) σ [.ref (a 0), .int p1, .int p2] r u) : ∀ (σ : St) (x2 : Int32) (H : Heap) (locs : List Loc) (ls : Array Slot), f_X12_asksAs_b10 rc_X12_asksAs σ x2 = some (r, σ') → va_P g classes (WM ts a σ) H → va_D A (WM ts a σ) → va_S A s.heap H locs → lv_has ls 4 [(0, .ref (a 0)), (2, .int x2)] → W p l e (rk (Rf + 6) (Rl + 132)) s m args below meth c H locs 0 0 Q (F0 m 10 ls []) := by
  have hx := C.1
  have hb := C.2.1
  have hown := C.2.2.2.1
  have hts := C.2.2.2.2.1
  intro σ x2 H locs ls hf hP hD hS hl
  rw [f_X12_asksAs_b10] at hf
  refine lv_aload_n hx hb dX12_asksAs_10 rfl (lv_at hl 0 rfl) ?_
  refine lv_bipush (v := 40) hx hb dX12_asksAs_11 (by decide) ?_
  obtain ⟨σ8, h7, hf⟩ := bnd1_some hf
  refine vV [] C hP hD hS (c_X12_begins h7) mv_X12_begins q_1533 rv_X12 dX12_asksAs_13 ⟨by show 0 + 1 ≤ _ + _; omega, by show 8 + (2 + 11) + 0 ≤ _ + _; omega⟩ ⟨Nat.zero_le _, Nat.zero_le _⟩ rfl rfl (Nat.le_of_ble_eq_true rfl) hl.1 (fun H locs hP hD hS => ?_)
  refine lv_aload_n hx hb dX12_asksAs_16 rfl (lv_at hl 0 rfl) ?_
  refine lv_iconst (v := 2) hx hb dX12_asksAs_17 (by decide) ?_
  refine lv_iload_n hx hb dX12_asksAs_18 rfl (lv_at hl 1 rfl) ?_
  obtain ⟨r10, σ11, h9, hf⟩ := bnd2_some hf
  refine vI [] C hP hD hS (hrc_X12_asksAs.2 _ _ _ _ _  h9) mv_X12_asksAs q_1541 rv_X12 dX12_asksAs_19 ⟨by have hz := hrc_X12_asksAs.1; show Rf_X12_asksAs + 1 ≤ Rf + _; omega, by have hz := hrc_X12_asksAs.1; show 8 + (4 + 11) + Rl_X12_asksAs ≤ Rl + _; omega⟩ ⟨Nat.zero_le _, Nat.zero_le _⟩ rfl rfl (Nat.le_of_ble_eq_true rfl) hl.1 (fun H locs hP hD hS => ?_)
  refine lv_iconst (v := 3) hx hb dX12_asksAs_22 (by decide) ?_
  refine lv_imul hx hb dX12_asksAs_23 ?_
  exact retI hQ hf dX12_asksAs_24 hP hD hS
set_option maxHeartbeats 4000000 in
set_option maxRecDepth 100000 in
theorem w_X12_asksAs_b36 {p : Program} {l : Launch} {e : Env} {s : State} {m : MethodId} {args : Array Value} {below : List Frame} {meth : Method} {c : Code} {g : va_G} {ts : ClassId × ClassId × ClassId} {A : Nat → Prop} {Q : State → Prop} {a : Nat → Nat} {r : Int32} {σ' : St} {Rf Rl : Nat} {Rf_X12_asksAs Rl_X12_asksAs : Nat} {rc_X12_asksAs : St → Int32 → Int32 → Option (Int32 × St)} (C : FX p s m args meth c RX12 cX12_asksAs 4 g ts A) (hQ : RetI p l e (rk (Rf + 6) (Rl + 132)) s m args below meth c cX12_asksAs g (WM ts a) A r σ' Q) (hrc_X12_asksAs : (Rf_X12_asksAs ≤ Rf ∧ Rl_X12_asksAs ≤ Rl) ∧ ∀ (σ : St) (p1 : Int32) (p2 : Int32) (r : Int32) (u : St), rc_X12_asksAs σ p1 p2 = some (r, u) → ConI l g ts (WM ts a) yX12_asksAs cX12_asksAs 4 (some .int) (rk Rf_X12_asksAs Rl_X12_asksAs) σ [.ref (a 0), .int p1, .int p2] r u) : ∀ (σ : St) (x2 : Int32) (H : Heap) (locs : List Loc) (ls : Array Slot), f_X12_asksAs_b36 rc_X12_asksAs σ x2 = some (r, σ') → va_P g classes (WM ts a σ) H → va_D A (WM ts a σ) → va_S A s.heap H locs → lv_has ls 4 [(0, .ref (a 0)), (2, .int x2)] → W p l e (rk (Rf + 6) (Rl + 132)) s m args below meth c H locs 0 0 Q (F0 m 36 ls []) := by
  have hx := C.1
  have hb := C.2.1
  have hown := C.2.2.2.1
  have hts := C.2.2.2.2.1
  intro σ x2 H locs ls hf hP hD hS hl
  rw [f_X12_asksAs_b36] at hf
  refine lv_aload_n hx hb dX12_asksAs_36 rfl (lv_at hl 0 rfl) ?_
  refine lv_bipush (v := 50) hx hb dX12_asksAs_37 (by decide) ?_
  obtain ⟨σ13, h12, hf⟩ := bnd1_some hf
  refine vV [] C hP hD hS (c_X12_begins h12) mv_X12_begins q_1533 rv_X12 dX12_asksAs_39 ⟨by show 0 + 1 ≤ _ + _; omega, by show 8 + (2 + 11) + 0 ≤ _ + _; omega⟩ ⟨Nat.zero_le _, Nat.zero_le _⟩ rfl rfl (Nat.le_of_ble_eq_true rfl) hl.1 (fun H locs hP hD hS => ?_)
  refine lv_aload_n hx hb dX12_asksAs_42 rfl (lv_at hl 0 rfl) ?_
  refine lv_iconst (v := 1) hx hb dX12_asksAs_43 (by decide) ?_
  refine lv_iload_n hx hb dX12_asksAs_44 rfl (lv_at hl 1 rfl) ?_
  obtain ⟨r15, σ16, h14, hf⟩ := bnd2_some hf
  refine vI [] C hP hD hS (hrc_X12_asksAs.2 _ _ _ _ _  h14) mv_X12_asksAs q_1541 rv_X12 dX12_asksAs_45 ⟨by have hz := hrc_X12_asksAs.1; show Rf_X12_asksAs + 1 ≤ Rf + _; omega, by have hz := hrc_X12_asksAs.1; show 8 + (4 + 11) + Rl_X12_asksAs ≤ Rl + _; omega⟩ ⟨Nat.zero_le _, Nat.zero_le _⟩ rfl rfl (Nat.le_of_ble_eq_true rfl) hl.1 (fun H locs hP hD hS => ?_)
  refine lv_istore_n (lv' := [(3, .int r15), (0, .ref (a 0)), (2, .int x2)]) hx hb dX12_asksAs_48 rfl hl (by decide) rfl (fun ls hl => ?_)
  refine lv_iload_n hx hb dX12_asksAs_49 rfl (lv_at hl 0 rfl) ?_
  refine lv_aload_n hx hb dX12_asksAs_50 rfl (lv_at hl 1 rfl) ?_
  refine lv_aload_n hx hb dX12_asksAs_51 rfl (lv_at hl 1 rfl) ?_
  refine G_X12_ownKind C hP q_1109 dX12_asksAs_52 ?_
  refine lv_iconst (v := 2) hx hb dX12_asksAs_55 (by decide) ?_
  obtain ⟨r18, σ19, h17, hf⟩ := bnd2_some hf
  refine vI [.int r15] C hP hD hS (c_X12_saysAs h17) mv_X12_saysAs q_1529 rv_X12 dX12_asksAs_56 ⟨by show 5 + 1 ≤ _ + _; omega, by show 8 + (3 + 11) + 110 ≤ _ + _; omega⟩ ⟨Nat.zero_le _, Nat.zero_le _⟩ rfl rfl (Nat.le_of_ble_eq_true rfl) hl.1 (fun H locs hP hD hS => ?_)
  refine lv_isub hx hb dX12_asksAs_59 ?_
  exact retI hQ hf dX12_asksAs_60 hP hD hS
set_option maxHeartbeats 4000000 in
set_option maxRecDepth 100000 in
theorem c_X12_asksAs1 {l : Launch} {g : va_G} {ts : ClassId × ClassId × ClassId} {a : Nat → Nat} {σ : St} {p1 : Int32} {p2 : Int32} {r : Int32} {σ' : St} {Rf Rl : Nat} {Rf_X12_asksAs Rl_X12_asksAs : Nat} {rc_X12_asksAs : St → Int32 → Int32 → Option (Int32 × St)} (hrc_X12_asksAs : (Rf_X12_asksAs ≤ Rf ∧ Rl_X12_asksAs ≤ Rl) ∧ ∀ (σ : St) (p1 : Int32) (p2 : Int32) (r : Int32) (u : St), rc_X12_asksAs σ p1 p2 = some (r, u) → ConI l g ts (WM ts a) yX12_asksAs cX12_asksAs 4 (some .int) (rk Rf_X12_asksAs Rl_X12_asksAs) σ [.ref (a 0), .int p1, .int p2] r u) (hf : f_X12_asksAs1 rc_X12_asksAs σ p1 p2 = some (r, σ')) : ConI l g ts (WM ts a) yX12_asksAs cX12_asksAs 4 (some .int) (rk (Rf + 6) (Rl + 132)) σ [.ref (a 0), .int p1, .int p2] r σ' := by
  refine ConI_mk .int rfl rfl rfl rfl (by decide) (Nat.le_of_ble_eq_true rfl) ?_
  intro p e s m below meth c A Q ls C hQ hP hD hS hl
  have C : FX p s m _ meth c RX12 cX12_asksAs 4 g ts A := C
  have hx := C.1
  have hb := C.2.1
  have hown := C.2.2.2.1
  have hts := C.2.2.2.2.1
  have hl : lv_has ls 4 [(0, .ref (a 0)), (1, .int p1), (2, .int p2)] := hl
  rw [f_X12_asksAs1] at hf
  refine lv_iload_n hx hb dX12_asksAs_0 rfl (lv_at hl 1 rfl) ?_
  refine lv_iconst (v := 3) hx hb dX12_asksAs_1 (by decide) ?_
  refine lv_icmp_eq (tgt := 10) hx hb dX12_asksAs_2 (by decide) (fun c1 => ?_) (fun c1 => ?_)
  · replace hf := ipos c1 hf
    exact w_X12_asksAs_b10 C hQ hrc_X12_asksAs _ _ _ _ _ hf hP hD hS (lv_sub hl [0, 2] rfl)
  · replace hf := ineg c1 hf
    refine lv_iload_n hx hb dX12_asksAs_5 rfl (lv_at hl 1 rfl) ?_
    refine lv_iconst (v := 5) hx hb dX12_asksAs_6 (by decide) ?_
    refine lv_icmp_ne (tgt := 25) hx hb dX12_asksAs_7 (by decide) (fun c2 => ?_) (fun c2 => ?_)
    · replace hf := ineg c2 hf
      refine lv_iload_n hx hb dX12_asksAs_25 rfl (lv_at hl 1 rfl) ?_
      refine lv_iconst (v := 4) hx hb dX12_asksAs_26 (by decide) ?_
      refine lv_icmp_eq (tgt := 36) hx hb dX12_asksAs_27 (by decide) (fun c3 => ?_) (fun c3 => ?_)
      · replace hf := ipos c3 hf
        exact w_X12_asksAs_b36 C hQ hrc_X12_asksAs _ _ _ _ _ hf hP hD hS (lv_sub hl [0, 2] rfl)
      · replace hf := ineg c3 hf
        refine lv_iload_n hx hb dX12_asksAs_30 rfl (lv_at hl 1 rfl) ?_
        refine lv_bipush (v := 7) hx hb dX12_asksAs_31 (by decide) ?_
        refine lv_icmp_ne (tgt := 61) hx hb dX12_asksAs_33 (by decide) (fun c4 => ?_) (fun c4 => ?_)
        · replace hf := ineg c4 hf
          refine lv_aload_n hx hb dX12_asksAs_61 rfl (lv_at hl 0 rfl) ?_
          refine lv_bipush (v := 11) hx hb dX12_asksAs_62 (by decide) ?_
          obtain ⟨σ6, h5, hf⟩ := bnd1_some hf
          refine vV [] C hP hD hS (c_X12_begins h5) mv_X12_begins q_1533 rv_X12 dX12_asksAs_64 ⟨by show 0 + 1 ≤ _ + _; omega, by show 8 + (2 + 11) + 0 ≤ _ + _; omega⟩ ⟨Nat.zero_le _, Nat.zero_le _⟩ rfl rfl (Nat.le_of_ble_eq_true rfl) hl.1 (fun H locs hP hD hS => ?_)
          refine lv_iload_n hx hb dX12_asksAs_67 rfl (lv_at hl 2 rfl) ?_
          refine lv_aload_n hx hb dX12_asksAs_68 rfl (lv_at hl 0 rfl) ?_
          refine G_X12_ownNumber C hP q_1110 dX12_asksAs_69 ?_
          refine lv_ixor hx hb dX12_asksAs_72 ?_
          exact retI hQ hf dX12_asksAs_73 hP hD hS
        · replace hf := ipos c4 hf
          exact w_X12_asksAs_b36 C hQ hrc_X12_asksAs _ _ _ _ _ hf hP hD hS (lv_sub hl [0, 2] rfl)
    · replace hf := ipos c2 hf
      exact w_X12_asksAs_b10 C hQ hrc_X12_asksAs _ _ _ _ _ hf hP hD hS (lv_sub hl [0, 2] rfl)
def f_X12_asksAs_n : Nat → St → Int32 → Int32 → Option (Int32 × St)
  | 0, _, _, _ => none
  | n + 1, σ, p1, p2 => f_X12_asksAs1 (f_X12_asksAs_n n) σ p1 p2
theorem c_X12_asksAs_n {l : Launch} {g : va_G} {ts : ClassId × ClassId × ClassId} {a : Nat → Nat} : ∀ (n : Nat) (σ : St) (p1 : Int32) (p2 : Int32) (r : Int32) (u : St), f_X12_asksAs_n n σ p1 p2 = some (r, u) → ConI l g ts (WM ts a) yX12_asksAs cX12_asksAs 4 (some .int) (rk (6 * n) (132 * n)) σ [.ref (a 0), .int p1, .int p2] r u := by
  intro n
  induction n with
  | zero => intro σ p1 p2 r u hf; cases hf
  | succ n ih => intro σ p1 p2 r u hf; exact c_X12_asksAs1 (Rf := 6 * n) (Rl := 132 * n) (Rf_X12_asksAs := 6 * n) (Rl_X12_asksAs := 132 * n) ⟨⟨Nat.le_refl _, Nat.le_refl _⟩, ih⟩ hf
def f_X12_asksAs (σ : St) (p1 : Int32) (p2 : Int32) : Option (Int32 × St) := f_X12_asksAs_n 5 σ p1 p2
theorem c_X12_asksAs {l : Launch} {g : va_G} {ts : ClassId × ClassId × ClassId} {a : Nat → Nat} {σ : St} {p1 : Int32} {p2 : Int32} {r : Int32} {u : St} (hf : f_X12_asksAs σ p1 p2 = some (r, u)) : ConI l g ts (WM ts a) yX12_asksAs cX12_asksAs 4 (some .int) (rk 30 660) σ [.ref (a 0), .int p1, .int p2] r u := c_X12_asksAs_n 5 σ p1 p2 r u hf
theorem mv_X12_hearsAs : MV yX12_hearsAs cX12_hearsAs 4 (some .int) 2 := ⟨q_1539, q_52, q_71, q_1540, by decide +kernel, by decide +kernel, by decide +kernel⟩
theorem dX12_hearsAs_0 : decode cX12_hearsAs 0 = .ok (.iload_n 1, 1) := by decide +kernel
theorem dX12_hearsAs_1 : decode cX12_hearsAs 1 = .ok (.iconst 3, 1) := by decide +kernel
theorem dX12_hearsAs_2 : decode cX12_hearsAs 2 = .ok (.if_icmp .eq 8, 3) := by decide +kernel
theorem dX12_hearsAs_5 : decode cX12_hearsAs 5 = .ok (.iload_n 1, 1) := by decide +kernel
theorem dX12_hearsAs_6 : decode cX12_hearsAs 6 = .ok (.iconst 5, 1) := by decide +kernel
theorem dX12_hearsAs_7 : decode cX12_hearsAs 7 = .ok (.if_icmp .ne 18, 3) := by decide +kernel
theorem dX12_hearsAs_10 : decode cX12_hearsAs 10 = .ok (.aload_n 0, 1) := by decide +kernel
theorem dX12_hearsAs_11 : decode cX12_hearsAs 11 = .ok (.bipush 41, 2) := by decide +kernel
theorem dX12_hearsAs_13 : decode cX12_hearsAs 13 = .ok (.invokevirtual 313, 3) := by decide +kernel
theorem dX12_hearsAs_16 : decode cX12_hearsAs 16 = .ok (.aload_n 0, 1) := by decide +kernel
theorem dX12_hearsAs_17 : decode cX12_hearsAs 17 = .ok (.iconst 2, 1) := by decide +kernel
theorem dX12_hearsAs_18 : decode cX12_hearsAs 18 = .ok (.iload_n 2, 1) := by decide +kernel
theorem dX12_hearsAs_19 : decode cX12_hearsAs 19 = .ok (.iconst 1, 1) := by decide +kernel
theorem dX12_hearsAs_20 : decode cX12_hearsAs 20 = .ok (.iadd, 1) := by decide +kernel
theorem dX12_hearsAs_21 : decode cX12_hearsAs 21 = .ok (.invokevirtual 323, 3) := by decide +kernel
theorem dX12_hearsAs_24 : decode cX12_hearsAs 24 = .ok (.ireturn, 1) := by decide +kernel
theorem dX12_hearsAs_25 : decode cX12_hearsAs 25 = .ok (.iload_n 1, 1) := by decide +kernel
theorem dX12_hearsAs_26 : decode cX12_hearsAs 26 = .ok (.iconst 2, 1) := by decide +kernel
theorem dX12_hearsAs_27 : decode cX12_hearsAs 27 = .ok (.if_icmp .ne 17, 3) := by decide +kernel
theorem dX12_hearsAs_30 : decode cX12_hearsAs 30 = .ok (.aload_n 0, 1) := by decide +kernel
theorem dX12_hearsAs_31 : decode cX12_hearsAs 31 = .ok (.bipush 30, 2) := by decide +kernel
theorem dX12_hearsAs_33 : decode cX12_hearsAs 33 = .ok (.invokevirtual 313, 3) := by decide +kernel
theorem dX12_hearsAs_36 : decode cX12_hearsAs 36 = .ok (.aload_n 0, 1) := by decide +kernel
theorem dX12_hearsAs_37 : decode cX12_hearsAs 37 = .ok (.iconst 0, 1) := by decide +kernel
theorem dX12_hearsAs_38 : decode cX12_hearsAs 38 = .ok (.iload_n 2, 1) := by decide +kernel
theorem dX12_hearsAs_39 : decode cX12_hearsAs 39 = .ok (.invokevirtual 323, 3) := by decide +kernel
theorem dX12_hearsAs_42 : decode cX12_hearsAs 42 = .ok (.ineg, 1) := by decide +kernel
theorem dX12_hearsAs_43 : decode cX12_hearsAs 43 = .ok (.ireturn, 1) := by decide +kernel
theorem dX12_hearsAs_44 : decode cX12_hearsAs 44 = .ok (.iload_n 1, 1) := by decide +kernel
theorem dX12_hearsAs_45 : decode cX12_hearsAs 45 = .ok (.bipush 7, 2) := by decide +kernel
theorem dX12_hearsAs_47 : decode cX12_hearsAs 47 = .ok (.if_icmp .ne 28, 3) := by decide +kernel
theorem dX12_hearsAs_50 : decode cX12_hearsAs 50 = .ok (.aload_n 0, 1) := by decide +kernel
theorem dX12_hearsAs_51 : decode cX12_hearsAs 51 = .ok (.bipush 80, 2) := by decide +kernel
theorem dX12_hearsAs_53 : decode cX12_hearsAs 53 = .ok (.invokevirtual 313, 3) := by decide +kernel
theorem dX12_hearsAs_56 : decode cX12_hearsAs 56 = .ok (.aload_n 0, 1) := by decide +kernel
theorem dX12_hearsAs_57 : decode cX12_hearsAs 57 = .ok (.iconst 4, 1) := by decide +kernel
theorem dX12_hearsAs_58 : decode cX12_hearsAs 58 = .ok (.iload_n 2, 1) := by decide +kernel
theorem dX12_hearsAs_59 : decode cX12_hearsAs 59 = .ok (.invokevirtual 323, 3) := by decide +kernel
theorem dX12_hearsAs_62 : decode cX12_hearsAs 62 = .ok (.istore_n 3, 1) := by decide +kernel
theorem dX12_hearsAs_63 : decode cX12_hearsAs 63 = .ok (.iload_n 3, 1) := by decide +kernel
theorem dX12_hearsAs_64 : decode cX12_hearsAs 64 = .ok (.aload_n 0, 1) := by decide +kernel
theorem dX12_hearsAs_65 : decode cX12_hearsAs 65 = .ok (.aload_n 0, 1) := by decide +kernel
theorem dX12_hearsAs_66 : decode cX12_hearsAs 66 = .ok (.getfield 326, 3) := by decide +kernel
theorem dX12_hearsAs_69 : decode cX12_hearsAs 69 = .ok (.iconst 2, 1) := by decide +kernel
theorem dX12_hearsAs_70 : decode cX12_hearsAs 70 = .ok (.invokevirtual 329, 3) := by decide +kernel
theorem dX12_hearsAs_73 : decode cX12_hearsAs 73 = .ok (.iadd, 1) := by decide +kernel
theorem dX12_hearsAs_74 : decode cX12_hearsAs 74 = .ok (.ireturn, 1) := by decide +kernel
theorem dX12_hearsAs_75 : decode cX12_hearsAs 75 = .ok (.aload_n 0, 1) := by decide +kernel
theorem dX12_hearsAs_76 : decode cX12_hearsAs 76 = .ok (.bipush 10, 2) := by decide +kernel
theorem dX12_hearsAs_78 : decode cX12_hearsAs 78 = .ok (.invokevirtual 313, 3) := by decide +kernel
theorem dX12_hearsAs_81 : decode cX12_hearsAs 81 = .ok (.aload_n 0, 1) := by decide +kernel
theorem dX12_hearsAs_82 : decode cX12_hearsAs 82 = .ok (.aload_n 0, 1) := by decide +kernel
theorem dX12_hearsAs_83 : decode cX12_hearsAs 83 = .ok (.getfield 326, 3) := by decide +kernel
theorem dX12_hearsAs_86 : decode cX12_hearsAs 86 = .ok (.iload_n 2, 1) := by decide +kernel
theorem dX12_hearsAs_87 : decode cX12_hearsAs 87 = .ok (.invokevirtual 317, 3) := by decide +kernel
theorem dX12_hearsAs_90 : decode cX12_hearsAs 90 = .ok (.iconst 2, 1) := by decide +kernel
theorem dX12_hearsAs_91 : decode cX12_hearsAs 91 = .ok (.imul, 1) := by decide +kernel
theorem dX12_hearsAs_92 : decode cX12_hearsAs 92 = .ok (.ireturn, 1) := by decide +kernel
def f_X12_hearsAs_b10 (rc_X12_hearsAs : St → Int32 → Int32 → Option (Int32 × St)) (σ : St) (x2 : Int32) : Option (Int32 × St) := bnd1 (f_X12_begins σ (41 : Int32)) (fun σ24 => bnd2 (rc_X12_hearsAs σ24 (2 : Int32) (x2 + (1 : Int32))) (fun r26 σ27 => some (r26, σ27)))
def f_X12_hearsAs1 (rc_X12_hearsAs : St → Int32 → Int32 → Option (Int32 × St)) (σ : St) (p1 : Int32) (p2 : Int32) : Option (Int32 × St) := if p1 = (3 : Int32) then (f_X12_hearsAs_b10 rc_X12_hearsAs σ p2) else (if p1 = (5 : Int32) then (f_X12_hearsAs_b10 rc_X12_hearsAs σ p2) else (if p1 = (2 : Int32) then (bnd1 (f_X12_begins σ (30 : Int32)) (fun σ19 => bnd2 (rc_X12_hearsAs σ19 (0 : Int32) p2) (fun r21 σ22 => some (-r21, σ22)))) else (if p1 = (7 : Int32) then (bnd1 (f_X12_begins σ (80 : Int32)) (fun σ11 => bnd2 (rc_X12_hearsAs σ11 (4 : Int32) p2) (fun r13 σ14 => bnd2 (f_X12_asksAs σ14 (σ14.1 637 0) (2 : Int32)) (fun r16 σ17 => some (r13 + r16, σ17))))) else (bnd1 (f_X12_begins σ (10 : Int32)) (fun σ6 => bnd2 (f_X12_saysAs σ6 (σ6.1 637 0) p2) (fun r8 σ9 => some (r8 * (2 : Int32), σ9)))))))
set_option maxHeartbeats 4000000 in
set_option maxRecDepth 100000 in
theorem w_X12_hearsAs_b10 {p : Program} {l : Launch} {e : Env} {s : State} {m : MethodId} {args : Array Value} {below : List Frame} {meth : Method} {c : Code} {g : va_G} {ts : ClassId × ClassId × ClassId} {A : Nat → Prop} {Q : State → Prop} {a : Nat → Nat} {r : Int32} {σ' : St} {Rf Rl : Nat} {Rf_X12_hearsAs Rl_X12_hearsAs : Nat} {rc_X12_hearsAs : St → Int32 → Int32 → Option (Int32 × St)} (C : FX p s m args meth c RX12 cX12_hearsAs 4 g ts A) (hQ : RetI p l e (rk (Rf + 31) (Rl + 683)) s m args below meth c cX12_hearsAs g (WM ts a) A r σ' Q) (hrc_X12_hearsAs : (Rf_X12_hearsAs ≤ Rf ∧ Rl_X12_hearsAs ≤ Rl) ∧ ∀ (σ : St) (p1 : Int32) (p2 : Int32) (r : Int32) (u : St), rc_X12_hearsAs σ p1 p2 = some (r, u) → ConI l g ts (WM ts a) yX12_hearsAs cX12_hearsAs 4 (some .int) (rk Rf_X12_hearsAs Rl_X12_hearsAs) σ [.ref (a 0), .int p1, .int p2] r u) : ∀ (σ : St) (x2 : Int32) (H : Heap) (locs : List Loc) (ls : Array Slot), f_X12_hearsAs_b10 rc_X12_hearsAs σ x2 = some (r, σ') → va_P g classes (WM ts a σ) H → va_D A (WM ts a σ) → va_S A s.heap H locs → lv_has ls 4 [(0, .ref (a 0)), (2, .int x2)] → W p l e (rk (Rf + 31) (Rl + 683)) s m args below meth c H locs 0 0 Q (F0 m 10 ls []) := by
  have hx := C.1
  have hb := C.2.1
  have hown := C.2.2.2.1
  have hts := C.2.2.2.2.1
  intro σ x2 H locs ls hf hP hD hS hl
  rw [f_X12_hearsAs_b10] at hf
  refine lv_aload_n hx hb dX12_hearsAs_10 rfl (lv_at hl 0 rfl) ?_
  refine lv_bipush (v := 41) hx hb dX12_hearsAs_11 (by decide) ?_
  obtain ⟨σ24, h23, hf⟩ := bnd1_some hf
  refine vV [] C hP hD hS (c_X12_begins h23) mv_X12_begins q_1533 rv_X12 dX12_hearsAs_13 ⟨by show 0 + 1 ≤ _ + _; omega, by show 8 + (2 + 11) + 0 ≤ _ + _; omega⟩ ⟨Nat.zero_le _, Nat.zero_le _⟩ rfl rfl (Nat.le_of_ble_eq_true rfl) hl.1 (fun H locs hP hD hS => ?_)
  refine lv_aload_n hx hb dX12_hearsAs_16 rfl (lv_at hl 0 rfl) ?_
  refine lv_iconst (v := 2) hx hb dX12_hearsAs_17 (by decide) ?_
  refine lv_iload_n hx hb dX12_hearsAs_18 rfl (lv_at hl 1 rfl) ?_
  refine lv_iconst (v := 1) hx hb dX12_hearsAs_19 (by decide) ?_
  refine lv_iadd hx hb dX12_hearsAs_20 ?_
  obtain ⟨r26, σ27, h25, hf⟩ := bnd2_some hf
  refine vI [] C hP hD hS (hrc_X12_hearsAs.2 _ _ _ _ _  h25) mv_X12_hearsAs q_1537 rv_X12 dX12_hearsAs_21 ⟨by have hz := hrc_X12_hearsAs.1; show Rf_X12_hearsAs + 1 ≤ Rf + _; omega, by have hz := hrc_X12_hearsAs.1; show 8 + (4 + 11) + Rl_X12_hearsAs ≤ Rl + _; omega⟩ ⟨Nat.zero_le _, Nat.zero_le _⟩ rfl rfl (Nat.le_of_ble_eq_true rfl) hl.1 (fun H locs hP hD hS => ?_)
  exact retI hQ hf dX12_hearsAs_24 hP hD hS
set_option maxHeartbeats 4000000 in
set_option maxRecDepth 100000 in
theorem c_X12_hearsAs1 {l : Launch} {g : va_G} {ts : ClassId × ClassId × ClassId} {a : Nat → Nat} {σ : St} {p1 : Int32} {p2 : Int32} {r : Int32} {σ' : St} {Rf Rl : Nat} {Rf_X12_hearsAs Rl_X12_hearsAs : Nat} {rc_X12_hearsAs : St → Int32 → Int32 → Option (Int32 × St)} (hrc_X12_hearsAs : (Rf_X12_hearsAs ≤ Rf ∧ Rl_X12_hearsAs ≤ Rl) ∧ ∀ (σ : St) (p1 : Int32) (p2 : Int32) (r : Int32) (u : St), rc_X12_hearsAs σ p1 p2 = some (r, u) → ConI l g ts (WM ts a) yX12_hearsAs cX12_hearsAs 4 (some .int) (rk Rf_X12_hearsAs Rl_X12_hearsAs) σ [.ref (a 0), .int p1, .int p2] r u) (hf : f_X12_hearsAs1 rc_X12_hearsAs σ p1 p2 = some (r, σ')) : ConI l g ts (WM ts a) yX12_hearsAs cX12_hearsAs 4 (some .int) (rk (Rf + 31) (Rl + 683)) σ [.ref (a 0), .int p1, .int p2] r σ' := by
  refine ConI_mk .int rfl rfl rfl rfl (by decide) (Nat.le_of_ble_eq_true rfl) ?_
  intro p e s m below meth c A Q ls C hQ hP hD hS hl
  have C : FX p s m _ meth c RX12 cX12_hearsAs 4 g ts A := C
  have hx := C.1
  have hb := C.2.1
  have hown := C.2.2.2.1
  have hts := C.2.2.2.2.1
  have hl : lv_has ls 4 [(0, .ref (a 0)), (1, .int p1), (2, .int p2)] := hl
  rw [f_X12_hearsAs1] at hf
  refine lv_iload_n hx hb dX12_hearsAs_0 rfl (lv_at hl 1 rfl) ?_
  refine lv_iconst (v := 3) hx hb dX12_hearsAs_1 (by decide) ?_
  refine lv_icmp_eq (tgt := 10) hx hb dX12_hearsAs_2 (by decide) (fun c1 => ?_) (fun c1 => ?_)
  · replace hf := ipos c1 hf
    exact w_X12_hearsAs_b10 C hQ hrc_X12_hearsAs _ _ _ _ _ hf hP hD hS (lv_sub hl [0, 2] rfl)
  · replace hf := ineg c1 hf
    refine lv_iload_n hx hb dX12_hearsAs_5 rfl (lv_at hl 1 rfl) ?_
    refine lv_iconst (v := 5) hx hb dX12_hearsAs_6 (by decide) ?_
    refine lv_icmp_ne (tgt := 25) hx hb dX12_hearsAs_7 (by decide) (fun c2 => ?_) (fun c2 => ?_)
    · replace hf := ineg c2 hf
      refine lv_iload_n hx hb dX12_hearsAs_25 rfl (lv_at hl 1 rfl) ?_
      refine lv_iconst (v := 2) hx hb dX12_hearsAs_26 (by decide) ?_
      refine lv_icmp_ne (tgt := 44) hx hb dX12_hearsAs_27 (by decide) (fun c3 => ?_) (fun c3 => ?_)
      · replace hf := ineg c3 hf
        refine lv_iload_n hx hb dX12_hearsAs_44 rfl (lv_at hl 1 rfl) ?_
        refine lv_bipush (v := 7) hx hb dX12_hearsAs_45 (by decide) ?_
        refine lv_icmp_ne (tgt := 75) hx hb dX12_hearsAs_47 (by decide) (fun c4 => ?_) (fun c4 => ?_)
        · replace hf := ineg c4 hf
          refine lv_aload_n hx hb dX12_hearsAs_75 rfl (lv_at hl 0 rfl) ?_
          refine lv_bipush (v := 10) hx hb dX12_hearsAs_76 (by decide) ?_
          obtain ⟨σ6, h5, hf⟩ := bnd1_some hf
          refine vV [] C hP hD hS (c_X12_begins h5) mv_X12_begins q_1533 rv_X12 dX12_hearsAs_78 ⟨by show 0 + 1 ≤ _ + _; omega, by show 8 + (2 + 11) + 0 ≤ _ + _; omega⟩ ⟨Nat.zero_le _, Nat.zero_le _⟩ rfl rfl (Nat.le_of_ble_eq_true rfl) hl.1 (fun H locs hP hD hS => ?_)
          refine lv_aload_n hx hb dX12_hearsAs_81 rfl (lv_at hl 0 rfl) ?_
          refine lv_aload_n hx hb dX12_hearsAs_82 rfl (lv_at hl 0 rfl) ?_
          refine G_X12_ownKind C hP q_1109 dX12_hearsAs_83 ?_
          refine lv_iload_n hx hb dX12_hearsAs_86 rfl (lv_at hl 2 rfl) ?_
          obtain ⟨r8, σ9, h7, hf⟩ := bnd2_some hf
          refine vI [] C hP hD hS (c_X12_saysAs h7) mv_X12_saysAs q_1529 rv_X12 dX12_hearsAs_87 ⟨by show 5 + 1 ≤ _ + _; omega, by show 8 + (3 + 11) + 110 ≤ _ + _; omega⟩ ⟨Nat.zero_le _, Nat.zero_le _⟩ rfl rfl (Nat.le_of_ble_eq_true rfl) hl.1 (fun H locs hP hD hS => ?_)
          refine lv_iconst (v := 2) hx hb dX12_hearsAs_90 (by decide) ?_
          refine lv_imul hx hb dX12_hearsAs_91 ?_
          exact retI hQ hf dX12_hearsAs_92 hP hD hS
        · replace hf := ipos c4 hf
          refine lv_aload_n hx hb dX12_hearsAs_50 rfl (lv_at hl 0 rfl) ?_
          refine lv_bipush (v := 80) hx hb dX12_hearsAs_51 (by decide) ?_
          obtain ⟨σ11, h10, hf⟩ := bnd1_some hf
          refine vV [] C hP hD hS (c_X12_begins h10) mv_X12_begins q_1533 rv_X12 dX12_hearsAs_53 ⟨by show 0 + 1 ≤ _ + _; omega, by show 8 + (2 + 11) + 0 ≤ _ + _; omega⟩ ⟨Nat.zero_le _, Nat.zero_le _⟩ rfl rfl (Nat.le_of_ble_eq_true rfl) hl.1 (fun H locs hP hD hS => ?_)
          refine lv_aload_n hx hb dX12_hearsAs_56 rfl (lv_at hl 0 rfl) ?_
          refine lv_iconst (v := 4) hx hb dX12_hearsAs_57 (by decide) ?_
          refine lv_iload_n hx hb dX12_hearsAs_58 rfl (lv_at hl 2 rfl) ?_
          obtain ⟨r13, σ14, h12, hf⟩ := bnd2_some hf
          refine vI [] C hP hD hS (hrc_X12_hearsAs.2 _ _ _ _ _  h12) mv_X12_hearsAs q_1537 rv_X12 dX12_hearsAs_59 ⟨by have hz := hrc_X12_hearsAs.1; show Rf_X12_hearsAs + 1 ≤ Rf + _; omega, by have hz := hrc_X12_hearsAs.1; show 8 + (4 + 11) + Rl_X12_hearsAs ≤ Rl + _; omega⟩ ⟨Nat.zero_le _, Nat.zero_le _⟩ rfl rfl (Nat.le_of_ble_eq_true rfl) hl.1 (fun H locs hP hD hS => ?_)
          refine lv_istore_n (lv' := [(3, .int r13), (0, .ref (a 0)), (1, .int p1), (2, .int p2)]) hx hb dX12_hearsAs_62 rfl hl (by decide) rfl (fun ls hl => ?_)
          refine lv_iload_n hx hb dX12_hearsAs_63 rfl (lv_at hl 0 rfl) ?_
          refine lv_aload_n hx hb dX12_hearsAs_64 rfl (lv_at hl 1 rfl) ?_
          refine lv_aload_n hx hb dX12_hearsAs_65 rfl (lv_at hl 1 rfl) ?_
          refine G_X12_ownKind C hP q_1109 dX12_hearsAs_66 ?_
          refine lv_iconst (v := 2) hx hb dX12_hearsAs_69 (by decide) ?_
          obtain ⟨r16, σ17, h15, hf⟩ := bnd2_some hf
          refine vI [.int r13] C hP hD hS (c_X12_asksAs h15) mv_X12_asksAs q_1541 rv_X12 dX12_hearsAs_70 ⟨by show 30 + 1 ≤ _ + _; omega, by show 8 + (4 + 11) + 660 ≤ _ + _; omega⟩ ⟨Nat.zero_le _, Nat.zero_le _⟩ rfl rfl (Nat.le_of_ble_eq_true rfl) hl.1 (fun H locs hP hD hS => ?_)
          refine lv_iadd hx hb dX12_hearsAs_73 ?_
          exact retI hQ hf dX12_hearsAs_74 hP hD hS
      · replace hf := ipos c3 hf
        refine lv_aload_n hx hb dX12_hearsAs_30 rfl (lv_at hl 0 rfl) ?_
        refine lv_bipush (v := 30) hx hb dX12_hearsAs_31 (by decide) ?_
        obtain ⟨σ19, h18, hf⟩ := bnd1_some hf
        refine vV [] C hP hD hS (c_X12_begins h18) mv_X12_begins q_1533 rv_X12 dX12_hearsAs_33 ⟨by show 0 + 1 ≤ _ + _; omega, by show 8 + (2 + 11) + 0 ≤ _ + _; omega⟩ ⟨Nat.zero_le _, Nat.zero_le _⟩ rfl rfl (Nat.le_of_ble_eq_true rfl) hl.1 (fun H locs hP hD hS => ?_)
        refine lv_aload_n hx hb dX12_hearsAs_36 rfl (lv_at hl 0 rfl) ?_
        refine lv_iconst (v := 0) hx hb dX12_hearsAs_37 (by decide) ?_
        refine lv_iload_n hx hb dX12_hearsAs_38 rfl (lv_at hl 2 rfl) ?_
        obtain ⟨r21, σ22, h20, hf⟩ := bnd2_some hf
        refine vI [] C hP hD hS (hrc_X12_hearsAs.2 _ _ _ _ _  h20) mv_X12_hearsAs q_1537 rv_X12 dX12_hearsAs_39 ⟨by have hz := hrc_X12_hearsAs.1; show Rf_X12_hearsAs + 1 ≤ Rf + _; omega, by have hz := hrc_X12_hearsAs.1; show 8 + (4 + 11) + Rl_X12_hearsAs ≤ Rl + _; omega⟩ ⟨Nat.zero_le _, Nat.zero_le _⟩ rfl rfl (Nat.le_of_ble_eq_true rfl) hl.1 (fun H locs hP hD hS => ?_)
        refine lv_ineg hx hb dX12_hearsAs_42 ?_
        exact retI hQ hf dX12_hearsAs_43 hP hD hS
    · replace hf := ipos c2 hf
      exact w_X12_hearsAs_b10 C hQ hrc_X12_hearsAs _ _ _ _ _ hf hP hD hS (lv_sub hl [0, 2] rfl)
def f_X12_hearsAs_n : Nat → St → Int32 → Int32 → Option (Int32 × St)
  | 0, _, _, _ => none
  | n + 1, σ, p1, p2 => f_X12_hearsAs1 (f_X12_hearsAs_n n) σ p1 p2
theorem c_X12_hearsAs_n {l : Launch} {g : va_G} {ts : ClassId × ClassId × ClassId} {a : Nat → Nat} : ∀ (n : Nat) (σ : St) (p1 : Int32) (p2 : Int32) (r : Int32) (u : St), f_X12_hearsAs_n n σ p1 p2 = some (r, u) → ConI l g ts (WM ts a) yX12_hearsAs cX12_hearsAs 4 (some .int) (rk (31 * n) (683 * n)) σ [.ref (a 0), .int p1, .int p2] r u := by
  intro n
  induction n with
  | zero => intro σ p1 p2 r u hf; cases hf
  | succ n ih => intro σ p1 p2 r u hf; exact c_X12_hearsAs1 (Rf := 31 * n) (Rl := 683 * n) (Rf_X12_hearsAs := 31 * n) (Rl_X12_hearsAs := 683 * n) ⟨⟨Nat.le_refl _, Nat.le_refl _⟩, ih⟩ hf
def f_X12_hearsAs (σ : St) (p1 : Int32) (p2 : Int32) : Option (Int32 × St) := f_X12_hearsAs_n 5 σ p1 p2
theorem c_X12_hearsAs {l : Launch} {g : va_G} {ts : ClassId × ClassId × ClassId} {a : Nat → Nat} {σ : St} {p1 : Int32} {p2 : Int32} {r : Int32} {u : St} (hf : f_X12_hearsAs σ p1 p2 = some (r, u)) : ConI l g ts (WM ts a) yX12_hearsAs cX12_hearsAs 4 (some .int) (rk 155 3415) σ [.ref (a 0), .int p1, .int p2] r u := c_X12_hearsAs_n 5 σ p1 p2 r u hf
theorem mv_X12_tellsAs : MV yX12_tellsAs cX12_tellsAs 4 (some .int) 2 := ⟨q_1547, q_54, q_71, q_1548, by decide +kernel, by decide +kernel, by decide +kernel⟩
theorem dX12_tellsAs_0 : decode cX12_tellsAs 0 = .ok (.iload_n 1, 1) := by decide +kernel
theorem dX12_tellsAs_1 : decode cX12_tellsAs 1 = .ok (.iconst 5, 1) := by decide +kernel
theorem dX12_tellsAs_2 : decode cX12_tellsAs 2 = .ok (.if_icmp .ne 18, 3) := by decide +kernel
theorem dX12_tellsAs_5 : decode cX12_tellsAs 5 = .ok (.aload_n 0, 1) := by decide +kernel
theorem dX12_tellsAs_6 : decode cX12_tellsAs 6 = .ok (.bipush 60, 2) := by decide +kernel
theorem dX12_tellsAs_8 : decode cX12_tellsAs 8 = .ok (.invokevirtual 313, 3) := by decide +kernel
theorem dX12_tellsAs_11 : decode cX12_tellsAs 11 = .ok (.aload_n 0, 1) := by decide +kernel
theorem dX12_tellsAs_12 : decode cX12_tellsAs 12 = .ok (.iconst 3, 1) := by decide +kernel
theorem dX12_tellsAs_13 : decode cX12_tellsAs 13 = .ok (.iload_n 2, 1) := by decide +kernel
theorem dX12_tellsAs_14 : decode cX12_tellsAs 14 = .ok (.invokevirtual 332, 3) := by decide +kernel
theorem dX12_tellsAs_17 : decode cX12_tellsAs 17 = .ok (.iconst 5, 1) := by decide +kernel
theorem dX12_tellsAs_18 : decode cX12_tellsAs 18 = .ok (.ixor, 1) := by decide +kernel
theorem dX12_tellsAs_19 : decode cX12_tellsAs 19 = .ok (.ireturn, 1) := by decide +kernel
theorem dX12_tellsAs_20 : decode cX12_tellsAs 20 = .ok (.iload_n 1, 1) := by decide +kernel
theorem dX12_tellsAs_21 : decode cX12_tellsAs 21 = .ok (.bipush 7, 2) := by decide +kernel
theorem dX12_tellsAs_23 : decode cX12_tellsAs 23 = .ok (.if_icmp .ne 18, 3) := by decide +kernel
theorem dX12_tellsAs_26 : decode cX12_tellsAs 26 = .ok (.aload_n 0, 1) := by decide +kernel
theorem dX12_tellsAs_27 : decode cX12_tellsAs 27 = .ok (.bipush 81, 2) := by decide +kernel
theorem dX12_tellsAs_29 : decode cX12_tellsAs 29 = .ok (.invokevirtual 313, 3) := by decide +kernel
theorem dX12_tellsAs_32 : decode cX12_tellsAs 32 = .ok (.aload_n 0, 1) := by decide +kernel
theorem dX12_tellsAs_33 : decode cX12_tellsAs 33 = .ok (.iconst 4, 1) := by decide +kernel
theorem dX12_tellsAs_34 : decode cX12_tellsAs 34 = .ok (.iload_n 2, 1) := by decide +kernel
theorem dX12_tellsAs_35 : decode cX12_tellsAs 35 = .ok (.invokevirtual 332, 3) := by decide +kernel
theorem dX12_tellsAs_38 : decode cX12_tellsAs 38 = .ok (.iconst 1, 1) := by decide +kernel
theorem dX12_tellsAs_39 : decode cX12_tellsAs 39 = .ok (.isub, 1) := by decide +kernel
theorem dX12_tellsAs_40 : decode cX12_tellsAs 40 = .ok (.ireturn, 1) := by decide +kernel
theorem dX12_tellsAs_41 : decode cX12_tellsAs 41 = .ok (.aload_n 0, 1) := by decide +kernel
theorem dX12_tellsAs_42 : decode cX12_tellsAs 42 = .ok (.iconst 2, 1) := by decide +kernel
theorem dX12_tellsAs_43 : decode cX12_tellsAs 43 = .ok (.invokevirtual 313, 3) := by decide +kernel
theorem dX12_tellsAs_46 : decode cX12_tellsAs 46 = .ok (.aload_n 0, 1) := by decide +kernel
theorem dX12_tellsAs_47 : decode cX12_tellsAs 47 = .ok (.aload_n 0, 1) := by decide +kernel
theorem dX12_tellsAs_48 : decode cX12_tellsAs 48 = .ok (.getfield 326, 3) := by decide +kernel
theorem dX12_tellsAs_51 : decode cX12_tellsAs 51 = .ok (.iload_n 2, 1) := by decide +kernel
theorem dX12_tellsAs_52 : decode cX12_tellsAs 52 = .ok (.invokevirtual 323, 3) := by decide +kernel
theorem dX12_tellsAs_55 : decode cX12_tellsAs 55 = .ok (.istore_n 3, 1) := by decide +kernel
theorem dX12_tellsAs_56 : decode cX12_tellsAs 56 = .ok (.iload_n 3, 1) := by decide +kernel
theorem dX12_tellsAs_57 : decode cX12_tellsAs 57 = .ok (.aload_n 0, 1) := by decide +kernel
theorem dX12_tellsAs_58 : decode cX12_tellsAs 58 = .ok (.aload_n 0, 1) := by decide +kernel
theorem dX12_tellsAs_59 : decode cX12_tellsAs 59 = .ok (.getfield 326, 3) := by decide +kernel
theorem dX12_tellsAs_62 : decode cX12_tellsAs 62 = .ok (.iconst 1, 1) := by decide +kernel
theorem dX12_tellsAs_63 : decode cX12_tellsAs 63 = .ok (.invokevirtual 329, 3) := by decide +kernel
theorem dX12_tellsAs_66 : decode cX12_tellsAs 66 = .ok (.isub, 1) := by decide +kernel
theorem dX12_tellsAs_67 : decode cX12_tellsAs 67 = .ok (.ireturn, 1) := by decide +kernel
def f_X12_tellsAs1 (rc_X12_tellsAs : St → Int32 → Int32 → Option (Int32 × St)) (σ : St) (p1 : Int32) (p2 : Int32) : Option (Int32 × St) := if p1 = (5 : Int32) then (bnd1 (f_X12_begins σ (60 : Int32)) (fun σ17 => bnd2 (rc_X12_tellsAs σ17 (3 : Int32) p2) (fun r19 σ20 => some (r19 ^^^ (5 : Int32), σ20)))) else (if p1 = (7 : Int32) then (bnd1 (f_X12_begins σ (81 : Int32)) (fun σ12 => bnd2 (rc_X12_tellsAs σ12 (4 : Int32) p2) (fun r14 σ15 => some (r14 - (1 : Int32), σ15)))) else (bnd1 (f_X12_begins σ (2 : Int32)) (fun σ4 => bnd2 (f_X12_hearsAs σ4 (σ4.1 637 0) p2) (fun r6 σ7 => bnd2 (f_X12_asksAs σ7 (σ7.1 637 0) (1 : Int32)) (fun r9 σ10 => some (r6 - r9, σ10))))))
set_option maxHeartbeats 4000000 in
set_option maxRecDepth 100000 in
theorem c_X12_tellsAs1 {l : Launch} {g : va_G} {ts : ClassId × ClassId × ClassId} {a : Nat → Nat} {σ : St} {p1 : Int32} {p2 : Int32} {r : Int32} {σ' : St} {Rf Rl : Nat} {Rf_X12_tellsAs Rl_X12_tellsAs : Nat} {rc_X12_tellsAs : St → Int32 → Int32 → Option (Int32 × St)} (hrc_X12_tellsAs : (Rf_X12_tellsAs ≤ Rf ∧ Rl_X12_tellsAs ≤ Rl) ∧ ∀ (σ : St) (p1 : Int32) (p2 : Int32) (r : Int32) (u : St), rc_X12_tellsAs σ p1 p2 = some (r, u) → ConI l g ts (WM ts a) yX12_tellsAs cX12_tellsAs 4 (some .int) (rk Rf_X12_tellsAs Rl_X12_tellsAs) σ [.ref (a 0), .int p1, .int p2] r u) (hf : f_X12_tellsAs1 rc_X12_tellsAs σ p1 p2 = some (r, σ')) : ConI l g ts (WM ts a) yX12_tellsAs cX12_tellsAs 4 (some .int) (rk (Rf + 156) (Rl + 3438)) σ [.ref (a 0), .int p1, .int p2] r σ' := by
  refine ConI_mk .int rfl rfl rfl rfl (by decide) (Nat.le_of_ble_eq_true rfl) ?_
  intro p e s m below meth c A Q ls C hQ hP hD hS hl
  have C : FX p s m _ meth c RX12 cX12_tellsAs 4 g ts A := C
  have hx := C.1
  have hb := C.2.1
  have hown := C.2.2.2.1
  have hts := C.2.2.2.2.1
  have hl : lv_has ls 4 [(0, .ref (a 0)), (1, .int p1), (2, .int p2)] := hl
  rw [f_X12_tellsAs1] at hf
  refine lv_iload_n hx hb dX12_tellsAs_0 rfl (lv_at hl 1 rfl) ?_
  refine lv_iconst (v := 5) hx hb dX12_tellsAs_1 (by decide) ?_
  refine lv_icmp_ne (tgt := 20) hx hb dX12_tellsAs_2 (by decide) (fun c1 => ?_) (fun c1 => ?_)
  · replace hf := ineg c1 hf
    refine lv_iload_n hx hb dX12_tellsAs_20 rfl (lv_at hl 1 rfl) ?_
    refine lv_bipush (v := 7) hx hb dX12_tellsAs_21 (by decide) ?_
    refine lv_icmp_ne (tgt := 41) hx hb dX12_tellsAs_23 (by decide) (fun c2 => ?_) (fun c2 => ?_)
    · replace hf := ineg c2 hf
      refine lv_aload_n hx hb dX12_tellsAs_41 rfl (lv_at hl 0 rfl) ?_
      refine lv_iconst (v := 2) hx hb dX12_tellsAs_42 (by decide) ?_
      obtain ⟨σ4, h3, hf⟩ := bnd1_some hf
      refine vV [] C hP hD hS (c_X12_begins h3) mv_X12_begins q_1533 rv_X12 dX12_tellsAs_43 ⟨by show 0 + 1 ≤ _ + _; omega, by show 8 + (2 + 11) + 0 ≤ _ + _; omega⟩ ⟨Nat.zero_le _, Nat.zero_le _⟩ rfl rfl (Nat.le_of_ble_eq_true rfl) hl.1 (fun H locs hP hD hS => ?_)
      refine lv_aload_n hx hb dX12_tellsAs_46 rfl (lv_at hl 0 rfl) ?_
      refine lv_aload_n hx hb dX12_tellsAs_47 rfl (lv_at hl 0 rfl) ?_
      refine G_X12_ownKind C hP q_1109 dX12_tellsAs_48 ?_
      refine lv_iload_n hx hb dX12_tellsAs_51 rfl (lv_at hl 2 rfl) ?_
      obtain ⟨r6, σ7, h5, hf⟩ := bnd2_some hf
      refine vI [] C hP hD hS (c_X12_hearsAs h5) mv_X12_hearsAs q_1537 rv_X12 dX12_tellsAs_52 ⟨by show 155 + 1 ≤ _ + _; omega, by show 8 + (4 + 11) + 3415 ≤ _ + _; omega⟩ ⟨Nat.zero_le _, Nat.zero_le _⟩ rfl rfl (Nat.le_of_ble_eq_true rfl) hl.1 (fun H locs hP hD hS => ?_)
      refine lv_istore_n (lv' := [(3, .int r6), (0, .ref (a 0)), (1, .int p1), (2, .int p2)]) hx hb dX12_tellsAs_55 rfl hl (by decide) rfl (fun ls hl => ?_)
      refine lv_iload_n hx hb dX12_tellsAs_56 rfl (lv_at hl 0 rfl) ?_
      refine lv_aload_n hx hb dX12_tellsAs_57 rfl (lv_at hl 1 rfl) ?_
      refine lv_aload_n hx hb dX12_tellsAs_58 rfl (lv_at hl 1 rfl) ?_
      refine G_X12_ownKind C hP q_1109 dX12_tellsAs_59 ?_
      refine lv_iconst (v := 1) hx hb dX12_tellsAs_62 (by decide) ?_
      obtain ⟨r9, σ10, h8, hf⟩ := bnd2_some hf
      refine vI [.int r6] C hP hD hS (c_X12_asksAs h8) mv_X12_asksAs q_1541 rv_X12 dX12_tellsAs_63 ⟨by show 30 + 1 ≤ _ + _; omega, by show 8 + (4 + 11) + 660 ≤ _ + _; omega⟩ ⟨Nat.zero_le _, Nat.zero_le _⟩ rfl rfl (Nat.le_of_ble_eq_true rfl) hl.1 (fun H locs hP hD hS => ?_)
      refine lv_isub hx hb dX12_tellsAs_66 ?_
      exact retI hQ hf dX12_tellsAs_67 hP hD hS
    · replace hf := ipos c2 hf
      refine lv_aload_n hx hb dX12_tellsAs_26 rfl (lv_at hl 0 rfl) ?_
      refine lv_bipush (v := 81) hx hb dX12_tellsAs_27 (by decide) ?_
      obtain ⟨σ12, h11, hf⟩ := bnd1_some hf
      refine vV [] C hP hD hS (c_X12_begins h11) mv_X12_begins q_1533 rv_X12 dX12_tellsAs_29 ⟨by show 0 + 1 ≤ _ + _; omega, by show 8 + (2 + 11) + 0 ≤ _ + _; omega⟩ ⟨Nat.zero_le _, Nat.zero_le _⟩ rfl rfl (Nat.le_of_ble_eq_true rfl) hl.1 (fun H locs hP hD hS => ?_)
      refine lv_aload_n hx hb dX12_tellsAs_32 rfl (lv_at hl 0 rfl) ?_
      refine lv_iconst (v := 4) hx hb dX12_tellsAs_33 (by decide) ?_
      refine lv_iload_n hx hb dX12_tellsAs_34 rfl (lv_at hl 2 rfl) ?_
      obtain ⟨r14, σ15, h13, hf⟩ := bnd2_some hf
      refine vI [] C hP hD hS (hrc_X12_tellsAs.2 _ _ _ _ _  h13) mv_X12_tellsAs q_1545 rv_X12 dX12_tellsAs_35 ⟨by have hz := hrc_X12_tellsAs.1; show Rf_X12_tellsAs + 1 ≤ Rf + _; omega, by have hz := hrc_X12_tellsAs.1; show 8 + (4 + 11) + Rl_X12_tellsAs ≤ Rl + _; omega⟩ ⟨Nat.zero_le _, Nat.zero_le _⟩ rfl rfl (Nat.le_of_ble_eq_true rfl) hl.1 (fun H locs hP hD hS => ?_)
      refine lv_iconst (v := 1) hx hb dX12_tellsAs_38 (by decide) ?_
      refine lv_isub hx hb dX12_tellsAs_39 ?_
      exact retI hQ hf dX12_tellsAs_40 hP hD hS
  · replace hf := ipos c1 hf
    refine lv_aload_n hx hb dX12_tellsAs_5 rfl (lv_at hl 0 rfl) ?_
    refine lv_bipush (v := 60) hx hb dX12_tellsAs_6 (by decide) ?_
    obtain ⟨σ17, h16, hf⟩ := bnd1_some hf
    refine vV [] C hP hD hS (c_X12_begins h16) mv_X12_begins q_1533 rv_X12 dX12_tellsAs_8 ⟨by show 0 + 1 ≤ _ + _; omega, by show 8 + (2 + 11) + 0 ≤ _ + _; omega⟩ ⟨Nat.zero_le _, Nat.zero_le _⟩ rfl rfl (Nat.le_of_ble_eq_true rfl) hl.1 (fun H locs hP hD hS => ?_)
    refine lv_aload_n hx hb dX12_tellsAs_11 rfl (lv_at hl 0 rfl) ?_
    refine lv_iconst (v := 3) hx hb dX12_tellsAs_12 (by decide) ?_
    refine lv_iload_n hx hb dX12_tellsAs_13 rfl (lv_at hl 2 rfl) ?_
    obtain ⟨r19, σ20, h18, hf⟩ := bnd2_some hf
    refine vI [] C hP hD hS (hrc_X12_tellsAs.2 _ _ _ _ _  h18) mv_X12_tellsAs q_1545 rv_X12 dX12_tellsAs_14 ⟨by have hz := hrc_X12_tellsAs.1; show Rf_X12_tellsAs + 1 ≤ Rf + _; omega, by have hz := hrc_X12_tellsAs.1; show 8 + (4 + 11) + Rl_X12_tellsAs ≤ Rl + _; omega⟩ ⟨Nat.zero_le _, Nat.zero_le _⟩ rfl rfl (Nat.le_of_ble_eq_true rfl) hl.1 (fun H locs hP hD hS => ?_)
    refine lv_iconst (v := 5) hx hb dX12_tellsAs_17 (by decide) ?_
    refine lv_ixor hx hb dX12_tellsAs_18 ?_
    exact retI hQ hf dX12_tellsAs_19 hP hD hS
def f_X12_tellsAs_n : Nat → St → Int32 → Int32 → Option (Int32 × St)
  | 0, _, _, _ => none
  | n + 1, σ, p1, p2 => f_X12_tellsAs1 (f_X12_tellsAs_n n) σ p1 p2
theorem c_X12_tellsAs_n {l : Launch} {g : va_G} {ts : ClassId × ClassId × ClassId} {a : Nat → Nat} : ∀ (n : Nat) (σ : St) (p1 : Int32) (p2 : Int32) (r : Int32) (u : St), f_X12_tellsAs_n n σ p1 p2 = some (r, u) → ConI l g ts (WM ts a) yX12_tellsAs cX12_tellsAs 4 (some .int) (rk (156 * n) (3438 * n)) σ [.ref (a 0), .int p1, .int p2] r u := by
  intro n
  induction n with
  | zero => intro σ p1 p2 r u hf; cases hf
  | succ n ih => intro σ p1 p2 r u hf; exact c_X12_tellsAs1 (Rf := 156 * n) (Rl := 3438 * n) (Rf_X12_tellsAs := 156 * n) (Rl_X12_tellsAs := 3438 * n) ⟨⟨Nat.le_refl _, Nat.le_refl _⟩, ih⟩ hf
def f_X12_tellsAs (σ : St) (p1 : Int32) (p2 : Int32) : Option (Int32 × St) := f_X12_tellsAs_n 5 σ p1 p2
theorem c_X12_tellsAs {l : Launch} {g : va_G} {ts : ClassId × ClassId × ClassId} {a : Nat → Nat} {σ : St} {p1 : Int32} {p2 : Int32} {r : Int32} {u : St} (hf : f_X12_tellsAs σ p1 p2 = some (r, u)) : ConI l g ts (WM ts a) yX12_tellsAs cX12_tellsAs 4 (some .int) (rk 780 17190) σ [.ref (a 0), .int p1, .int p2] r u := c_X12_tellsAs_n 5 σ p1 p2 r u hf
