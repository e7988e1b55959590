theorem mv_X9_prepare : MV yX9_prepare cX9_prepare 5 none 1 := ⟨q_754, q_755, q_63, q_756, by decide +kernel, by decide +kernel, by decide +kernel⟩
theorem mv_X9_rightBy : MV yX9_rightBy cX9_rightBy 6 (some .long) 2 := ⟨q_760, q_761, q_63, q_762, by decide +kernel, by decide +kernel, by decide +kernel⟩
theorem mv_X9_lasts : MV yX9_lasts cX9_lasts 5 (some .int) 2 := ⟨q_770, q_771, q_63, q_772, by decide +kernel, by decide +kernel, by decide +kernel⟩
theorem mv_X9_leastSet : MV yX9_leastSet cX9_leastSet 9 (some .int) 2 := ⟨q_778, q_779, q_63, q_780, by decide +kernel, by decide +kernel, by decide +kernel⟩
theorem mv_X9_weakest : MV yX9_weakest cX9_weakest 6 (some .int) 1 := ⟨q_790, q_791, q_63, q_792, by decide +kernel, by decide +kernel, by decide +kernel⟩
theorem mv_X9_heardAs : MV yX9_heardAs cX9_heardAs 6 (some .long) 2 := ⟨q_802, q_803, q_63, q_804, by decide +kernel, by decide +kernel, by decide +kernel⟩
theorem mv_X9_closestTo : MV yX9_closestTo cX9_closestTo 8 (some .int) 1 := ⟨q_810, q_811, q_63, q_812, by decide +kernel, by decide +kernel, by decide +kernel⟩
theorem mv_X9_closestPair : MV yX9_closestPair cX9_closestPair 8 (some .int) 0 := ⟨q_821, q_822, q_63, q_823, by decide +kernel, by decide +kernel, by decide +kernel⟩
theorem mv_X9_stopsAt : MV yX9_stopsAt cX9_stopsAt 8 (some .int) 2 := ⟨q_846, q_847, q_63, q_848, by decide +kernel, by decide +kernel, by decide +kernel⟩
theorem mv_X9_draws : MV yX9_draws cX9_draws 12 (some .int) 4 := ⟨q_880, q_881, q_63, q_882, by decide +kernel, by decide +kernel, by decide +kernel⟩
theorem dX9_prepare_0 : decode cX9_prepare 0 = .ok (.iconst 0, 1) := by decide +kernel
theorem dX9_prepare_1 : decode cX9_prepare 1 = .ok (.istore_n 2, 1) := by decide +kernel
theorem dX9_prepare_2 : decode cX9_prepare 2 = .ok (.iload_n 2, 1) := by decide +kernel
theorem dX9_prepare_3 : decode cX9_prepare 3 = .ok (.aload_n 0, 1) := by decide +kernel
theorem dX9_prepare_4 : decode cX9_prepare 4 = .ok (.getfield 18, 3) := by decide +kernel
theorem dX9_prepare_7 : decode cX9_prepare 7 = .ok (.getfield 26, 3) := by decide +kernel
theorem dX9_prepare_10 : decode cX9_prepare 10 = .ok (.iload_n 1, 1) := by decide +kernel
theorem dX9_prepare_11 : decode cX9_prepare 11 = .ok (.iaload, 1) := by decide +kernel
theorem dX9_prepare_12 : decode cX9_prepare 12 = .ok (.if_icmp .ge 73, 3) := by decide +kernel
theorem dX9_prepare_15 : decode cX9_prepare 15 = .ok (.aload_n 0, 1) := by decide +kernel
theorem dX9_prepare_16 : decode cX9_prepare 16 = .ok (.getfield 18, 3) := by decide +kernel
theorem dX9_prepare_19 : decode cX9_prepare 19 = .ok (.iload_n 1, 1) := by decide +kernel
theorem dX9_prepare_20 : decode cX9_prepare 20 = .ok (.iload_n 2, 1) := by decide +kernel
theorem dX9_prepare_21 : decode cX9_prepare 21 = .ok (.invokevirtual 31, 3) := by decide +kernel
theorem dX9_prepare_24 : decode cX9_prepare 24 = .ok (.istore_n 3, 1) := by decide +kernel
theorem dX9_prepare_25 : decode cX9_prepare 25 = .ok (.aload_n 0, 1) := by decide +kernel
theorem dX9_prepare_26 : decode cX9_prepare 26 = .ok (.getfield 22, 3) := by decide +kernel
theorem dX9_prepare_29 : decode cX9_prepare 29 = .ok (.getfield 35, 3) := by decide +kernel
theorem dX9_prepare_32 : decode cX9_prepare 32 = .ok (.iload_n 3, 1) := by decide +kernel
theorem dX9_prepare_33 : decode cX9_prepare 33 = .ok (.iaload, 1) := by decide +kernel
theorem dX9_prepare_34 : decode cX9_prepare 34 = .ok (.istore 4, 2) := by decide +kernel
theorem dX9_prepare_36 : decode cX9_prepare 36 = .ok (.aload_n 0, 1) := by decide +kernel
theorem dX9_prepare_37 : decode cX9_prepare 37 = .ok (.getfield 9, 3) := by decide +kernel
theorem dX9_prepare_40 : decode cX9_prepare 40 = .ok (.iload_n 2, 1) := by decide +kernel
theorem dX9_prepare_41 : decode cX9_prepare 41 = .ok (.aload_n 0, 1) := by decide +kernel
theorem dX9_prepare_42 : decode cX9_prepare 42 = .ok (.getfield 22, 3) := by decide +kernel
theorem dX9_prepare_45 : decode cX9_prepare 45 = .ok (.iload_n 3, 1) := by decide +kernel
theorem dX9_prepare_46 : decode cX9_prepare 46 = .ok (.iload_n 3, 1) := by decide +kernel
theorem dX9_prepare_47 : decode cX9_prepare 47 = .ok (.iconst 0, 1) := by decide +kernel
theorem dX9_prepare_48 : decode cX9_prepare 48 = .ok (.invokevirtual 40, 3) := by decide +kernel
theorem dX9_prepare_51 : decode cX9_prepare 51 = .ok (.iastore, 1) := by decide +kernel
theorem dX9_prepare_52 : decode cX9_prepare 52 = .ok (.aload_n 0, 1) := by decide +kernel
theorem dX9_prepare_53 : decode cX9_prepare 53 = .ok (.getfield 15, 3) := by decide +kernel
theorem dX9_prepare_56 : decode cX9_prepare 56 = .ok (.iload_n 2, 1) := by decide +kernel
theorem dX9_prepare_57 : decode cX9_prepare 57 = .ok (.iload 4, 2) := by decide +kernel
theorem dX9_prepare_59 : decode cX9_prepare 59 = .ok (.bipush 100, 2) := by decide +kernel
theorem dX9_prepare_61 : decode cX9_prepare 61 = .ok (.imul, 1) := by decide +kernel
theorem dX9_prepare_62 : decode cX9_prepare 62 = .ok (.bipush 12, 2) := by decide +kernel
theorem dX9_prepare_64 : decode cX9_prepare 64 = .ok (.iload 4, 2) := by decide +kernel
theorem dX9_prepare_66 : decode cX9_prepare 66 = .ok (.isub, 1) := by decide +kernel
theorem dX9_prepare_67 : decode cX9_prepare 67 = .ok (.aload_n 0, 1) := by decide +kernel
theorem dX9_prepare_68 : decode cX9_prepare 68 = .ok (.getfield 9, 3) := by decide +kernel
theorem dX9_prepare_71 : decode cX9_prepare 71 = .ok (.iload_n 2, 1) := by decide +kernel
theorem dX9_prepare_72 : decode cX9_prepare 72 = .ok (.iaload, 1) := by decide +kernel
theorem dX9_prepare_73 : decode cX9_prepare 73 = .ok (.imul, 1) := by decide +kernel
theorem dX9_prepare_74 : decode cX9_prepare 74 = .ok (.iadd, 1) := by decide +kernel
theorem dX9_prepare_75 : decode cX9_prepare 75 = .ok (.bipush 12, 2) := by decide +kernel
theorem dX9_prepare_77 : decode cX9_prepare 77 = .ok (.idiv, 1) := by decide +kernel
theorem dX9_prepare_78 : decode cX9_prepare 78 = .ok (.iastore, 1) := by decide +kernel
theorem dX9_prepare_79 : decode cX9_prepare 79 = .ok (.iinc 2 1, 3) := by decide +kernel
theorem dX9_prepare_82 : decode cX9_prepare 82 = .ok (.goto (-80), 3) := by decide +kernel
theorem dX9_prepare_85 : decode cX9_prepare 85 = .ok (.return_, 1) := by decide +kernel
def f_X9_prepare_b2 : Nat → St → Int32 → Int32 → Option St
  | 0, _, _, _ => none
  | n + 1, σ, x1, x2 => chk (x1 < 0 ∨ 10 ≤ x1.toNatClampNeg) (if σ.2.2.1 301 0 x1.toNatClampNeg ≤ x2 then (some σ) else (bnd2 (f_X6_at σ x1 x2) (fun r4 σ5 => chk (r4 < 0 ∨ 12 ≤ r4.toNatClampNeg) (bnd (σ5.2.2.1 252 0 r4.toNatClampNeg) (fun v7 => bnd2 (f_X5_parts σ5 r4 r4 (0 : Int32)) (fun r9 σ10 => chk (x2 < 0 ∨ 6 ≤ x2.toNatClampNeg) (bnd (sA σ10 452 0 (upd (σ10.2.2.1 452 0) x2.toNatClampNeg r9)) (fun σ12 => chk (x2 < 0 ∨ 6 ≤ x2.toNatClampNeg) (chk (x2 < 0 ∨ 6 ≤ x2.toNatClampNeg) (bnd (sA σ12 453 0 (upd (σ12.2.2.1 453 0) x2.toNatClampNeg (((v7 * (100 : Int32)) + (((12 : Int32) - v7) * (σ12.2.2.1 452 0 x2.toNatClampNeg))) / (12 : Int32)))) (fun σ15 => bnd (x2 + 1) (fun v16 => f_X9_prepare_b2 n σ15 x1 v16))))))))))))
def f_X9_prepare (σ : St) (p1 : Int32) : Option St := f_X9_prepare_b2 256 σ p1 (0 : Int32)
set_option maxHeartbeats 4000000 in
set_option maxRecDepth 100000 in
theorem w_X9_prepare_b2 {p : Program} {l : Launch} {e : Env} {s : State} {m : MethodId} {args : Array Value} {below : List Frame} {meth : Method} {c : Code} {g : va_G} {ts : ClassId × ClassId × ClassId} {A : Nat → Prop} {Q : State → Prop} {a : Nat → Nat} {σ' : St} (C : FX p s m args meth c RX9 cX9_prepare 5 g ts A) (hQ : RetV p l e (rk 4 106) s m args below meth c cX9_prepare g (WC ts a) A σ' Q) : ∀ (n : Nat) (σ : St) (x1 : Int32) (x2 : Int32) (H : Heap) (locs : List Loc) (ls : Array Slot), f_X9_prepare_b2 n σ x1 x2 = some σ' → va_P g classes (WC ts a σ) H → va_D A (WC ts a σ) → va_S A s.heap H locs → lv_has ls 5 [(0, .ref (a 12)), (1, .int x1), (2, .int x2)] → W p l e (rk 4 106) s m args below meth c H locs 0 0 Q (F0 m 2 ls []) := by
  have hx := C.1
  have hb := C.2.1
  have hown := C.2.2.2.1
  have hts := C.2.2.2.2.1
  intro n
  induction n with
  | zero =>
    intro σ x1 x2 H locs ls hf
    cases hf
  | succ n ih =>
    intro σ x1 x2 H locs ls hf hP hD hS hl
    rw [f_X9_prepare_b2] at hf
    refine lv_iload_n hx hb dX9_prepare_2 rfl (lv_at hl 2 rfl) ?_
    refine lv_aload_n hx hb dX9_prepare_3 rfl (lv_at hl 0 rfl) ?_
    refine G_X9_names C hP q_183 dX9_prepare_4 ?_
    refine G_X6_sizes C hP q_157 dX9_prepare_7 ?_
    refine lv_iload_n hx hb dX9_prepare_10 rfl (lv_at hl 1 rfl) ?_
    obtain ⟨h1, hf⟩ := chk_some hf
    refine AL_X6_sizes C hP h1 dX9_prepare_11 ?_
    refine lv_icmp_ge (tgt := 85) hx hb dX9_prepare_12 (by decide) (fun c2 => ?_) (fun c2 => ?_)
    · replace hf := ipos c2 hf
      exact retV hQ hf dX9_prepare_85 hP hD hS
    · replace hf := ineg c2 hf
      refine lv_aload_n hx hb dX9_prepare_15 rfl (lv_at hl 0 rfl) ?_
      refine G_X9_names C hP q_183 dX9_prepare_16 ?_
      refine lv_iload_n hx hb dX9_prepare_19 rfl (lv_at hl 1 rfl) ?_
      refine lv_iload_n hx hb dX9_prepare_20 rfl (lv_at hl 2 rfl) ?_
      obtain ⟨r4, σ5, h3, hf⟩ := bnd2_some hf
      refine vI [] C hP hD hS (c_X6_at h3) mv_X6_at q_757 rv_X6 dX9_prepare_21 ⟨Nat.le_of_ble_eq_true rfl, Nat.le_of_ble_eq_true rfl⟩ ⟨Nat.zero_le _, Nat.zero_le _⟩ rfl rfl (Nat.le_of_ble_eq_true rfl) hl.1 (fun H locs hP hD hS => ?_)
      refine lv_istore_n (lv' := [(3, .int r4), (0, .ref (a 12)), (1, .int x1), (2, .int x2)]) hx hb dX9_prepare_24 rfl hl (by decide) rfl (fun ls hl => ?_)
      refine lv_aload_n hx hb dX9_prepare_25 rfl (lv_at hl 1 rfl) ?_
      refine G_X9_line C hP q_184 dX9_prepare_26 ?_
      refine G_X5_clear C hP q_122 dX9_prepare_29 ?_
      refine lv_iload_n hx hb dX9_prepare_32 rfl (lv_at hl 0 rfl) ?_
      obtain ⟨h6, hf⟩ := chk_some hf
      refine AL_X5_clear C hP h6 dX9_prepare_33 ?_
      refine lv_topi (fun v7 ev7 => ?_)
      replace hf := bnd_at ev7 hf
      refine lv_istore (lv' := [(4, .int v7), (3, .int r4), (0, .ref (a 12)), (1, .int x1), (2, .int x2)]) hx hb dX9_prepare_34 hl (by decide) rfl (fun ls hl => ?_)
      refine lv_aload_n hx hb dX9_prepare_36 rfl (lv_at hl 2 rfl) ?_
      refine G_X9_plain C hP q_185 dX9_prepare_37 ?_
      refine lv_iload_n hx hb dX9_prepare_40 rfl (lv_at hl 4 rfl) ?_
      refine lv_aload_n hx hb dX9_prepare_41 rfl (lv_at hl 2 rfl) ?_
      refine G_X9_line C hP q_184 dX9_prepare_42 ?_
      refine lv_iload_n hx hb dX9_prepare_45 rfl (lv_at hl 1 rfl) ?_
      refine lv_iload_n hx hb dX9_prepare_46 rfl (lv_at hl 1 rfl) ?_
      refine lv_iconst (v := 0) hx hb dX9_prepare_47 (by decide) ?_
      obtain ⟨r9, σ10, h8, hf⟩ := bnd2_some hf
      refine vI [.int x2, .ref (a 13)] C hP hD hS (c_X5_parts h8) mv_X5_parts q_758 rv_X5 dX9_prepare_48 ⟨Nat.le_of_ble_eq_true rfl, Nat.le_of_ble_eq_true rfl⟩ ⟨Nat.zero_le _, Nat.zero_le _⟩ rfl rfl (Nat.le_of_ble_eq_true rfl) hl.1 (fun H locs hP hD hS => ?_)
      obtain ⟨h11, hf⟩ := chk_some hf
      refine AS_X9_plain C hP hD hS h11 dX9_prepare_51 (fun H locs hP hD hS => ?_)
      refine nameS hP hD hf (fun σ12 hP hD hf => ?_)
      refine lv_aload_n hx hb dX9_prepare_52 rfl (lv_at hl 2 rfl) ?_
      refine G_X9_byWord C hP q_186 dX9_prepare_53 ?_
      refine lv_iload_n hx hb dX9_prepare_56 rfl (lv_at hl 4 rfl) ?_
      refine lv_iload hx hb dX9_prepare_57 (lv_at hl 0 rfl) ?_
      refine lv_bipush (v := 100) hx hb dX9_prepare_59 (by decide) ?_
      refine lv_imul hx hb dX9_prepare_61 ?_
      refine lv_bipush (v := 12) hx hb dX9_prepare_62 (by decide) ?_
      refine lv_iload hx hb dX9_prepare_64 (lv_at hl 0 rfl) ?_
      refine lv_isub hx hb dX9_prepare_66 ?_
      refine lv_aload_n hx hb dX9_prepare_67 rfl (lv_at hl 2 rfl) ?_
      refine G_X9_plain C hP q_185 dX9_prepare_68 ?_
      refine lv_iload_n hx hb dX9_prepare_71 rfl (lv_at hl 4 rfl) ?_
      obtain ⟨h13, hf⟩ := chk_some hf
      refine AL_X9_plain C hP h13 dX9_prepare_72 ?_
      refine lv_imul hx hb dX9_prepare_73 ?_
      refine lv_iadd hx hb dX9_prepare_74 ?_
      refine lv_bipush (v := 12) hx hb dX9_prepare_75 (by decide) ?_
      refine lv_idiv hx hb dX9_prepare_77 (by decide) ?_
      obtain ⟨h14, hf⟩ := chk_some hf
      refine AS_X9_byWord C hP hD hS h14 dX9_prepare_78 (fun H locs hP hD hS => ?_)
      refine nameS hP hD hf (fun σ15 hP hD hf => ?_)
      obtain ⟨v16, ev16⟩ : ∃ z : Int32, z = x2 + 1 := ⟨_, rfl⟩
      replace hf := bnd_at ev16 hf
      refine lv_iinc (v := v16) (lv' := [(2, .int v16), (4, .int v7), (3, .int r4), (0, .ref (a 12)), (1, .int x1)]) hx hb dX9_prepare_79 hl (k := 4) rfl (by rw [ev16]; rfl) (by decide) rfl (fun ls hl => ?_)
      refine lv_goto (tgt := 2) hx hb dX9_prepare_82 (by decide) ?_
      exact ih _ _ _ _ _ _ hf hP hD hS (lv_sub hl [3, 4, 0] rfl)
set_option maxHeartbeats 4000000 in
set_option maxRecDepth 100000 in
theorem c_X9_prepare {l : Launch} {g : va_G} {ts : ClassId × ClassId × ClassId} {a : Nat → Nat} {σ : St} {p1 : Int32} {σ' : St} (hf : f_X9_prepare σ p1 = some σ') : ConV l g ts (WC ts a) yX9_prepare cX9_prepare 5 none (rk 4 106) σ [.ref (a 12), .int p1] σ' := by
  refine ConV_mk rfl rfl (by decide) (Nat.le_of_ble_eq_true rfl) ?_
  intro p e s m below meth c A Q ls C hQ hP hD hS hl
  have C : FX p s m _ meth c RX9 cX9_prepare 5 g ts A := C
  have hx := C.1
  have hb := C.2.1
  have hown := C.2.2.2.1
  have hts := C.2.2.2.2.1
  have hl : lv_has ls 5 [(0, .ref (a 12)), (1, .int p1)] := hl
  rw [f_X9_prepare] at hf
  refine lv_iconst (v := 0) hx hb dX9_prepare_0 (by decide) ?_
  refine lv_istore_n (lv' := [(2, .int (0 : Int32)), (0, .ref (a 12)), (1, .int p1)]) hx hb dX9_prepare_1 rfl hl (by decide) rfl (fun ls hl => ?_)
  exact w_X9_prepare_b2 C hQ 256 _ _ _ _ _ _ hf hP hD hS (lv_sub hl [1, 2, 0] rfl)
theorem dX9_rightBy_0 : decode cX9_rightBy 0 = .ok (.lconst 1, 1) := by decide +kernel
theorem dX9_rightBy_1 : decode cX9_rightBy 1 = .ok (.lstore_n 3, 1) := by decide +kernel
theorem dX9_rightBy_2 : decode cX9_rightBy 2 = .ok (.iconst 0, 1) := by decide +kernel
theorem dX9_rightBy_3 : decode cX9_rightBy 3 = .ok (.istore 5, 2) := by decide +kernel
theorem dX9_rightBy_5 : decode cX9_rightBy 5 = .ok (.iload 5, 2) := by decide +kernel
theorem dX9_rightBy_7 : decode cX9_rightBy 7 = .ok (.aload_n 0, 1) := by decide +kernel
theorem dX9_rightBy_8 : decode cX9_rightBy 8 = .ok (.getfield 18, 3) := by decide +kernel
theorem dX9_rightBy_11 : decode cX9_rightBy 11 = .ok (.getfield 26, 3) := by decide +kernel
theorem dX9_rightBy_14 : decode cX9_rightBy 14 = .ok (.iload_n 1, 1) := by decide +kernel
theorem dX9_rightBy_15 : decode cX9_rightBy 15 = .ok (.iaload, 1) := by decide +kernel
theorem dX9_rightBy_16 : decode cX9_rightBy 16 = .ok (.if_icmp .ge 40, 3) := by decide +kernel
theorem dX9_rightBy_19 : decode cX9_rightBy 19 = .ok (.lload_n 3, 1) := by decide +kernel
theorem dX9_rightBy_20 : decode cX9_rightBy 20 = .ok (.iload_n 2, 1) := by decide +kernel
theorem dX9_rightBy_21 : decode cX9_rightBy 21 = .ok (.iload 5, 2) := by decide +kernel
theorem dX9_rightBy_23 : decode cX9_rightBy 23 = .ok (.ishr, 1) := by decide +kernel
theorem dX9_rightBy_24 : decode cX9_rightBy 24 = .ok (.iconst 1, 1) := by decide +kernel
theorem dX9_rightBy_25 : decode cX9_rightBy 25 = .ok (.iand, 1) := by decide +kernel
theorem dX9_rightBy_26 : decode cX9_rightBy 26 = .ok (.ifCond .eq 14, 3) := by decide +kernel
theorem dX9_rightBy_29 : decode cX9_rightBy 29 = .ok (.aload_n 0, 1) := by decide +kernel
theorem dX9_rightBy_30 : decode cX9_rightBy 30 = .ok (.getfield 15, 3) := by decide +kernel
theorem dX9_rightBy_33 : decode cX9_rightBy 33 = .ok (.iload 5, 2) := by decide +kernel
theorem dX9_rightBy_35 : decode cX9_rightBy 35 = .ok (.iaload, 1) := by decide +kernel
theorem dX9_rightBy_36 : decode cX9_rightBy 36 = .ok (.i2l, 1) := by decide +kernel
theorem dX9_rightBy_37 : decode cX9_rightBy 37 = .ok (.goto 11, 3) := by decide +kernel
theorem dX9_rightBy_40 : decode cX9_rightBy 40 = .ok (.aload_n 0, 1) := by decide +kernel
theorem dX9_rightBy_41 : decode cX9_rightBy 41 = .ok (.getfield 9, 3) := by decide +kernel
theorem dX9_rightBy_44 : decode cX9_rightBy 44 = .ok (.iload 5, 2) := by decide +kernel
theorem dX9_rightBy_46 : decode cX9_rightBy 46 = .ok (.iaload, 1) := by decide +kernel
theorem dX9_rightBy_47 : decode cX9_rightBy 47 = .ok (.i2l, 1) := by decide +kernel
theorem dX9_rightBy_48 : decode cX9_rightBy 48 = .ok (.lmul, 1) := by decide +kernel
theorem dX9_rightBy_49 : decode cX9_rightBy 49 = .ok (.lstore_n 3, 1) := by decide +kernel
theorem dX9_rightBy_50 : decode cX9_rightBy 50 = .ok (.iinc 5 1, 3) := by decide +kernel
theorem dX9_rightBy_53 : decode cX9_rightBy 53 = .ok (.goto (-48), 3) := by decide +kernel
theorem dX9_rightBy_56 : decode cX9_rightBy 56 = .ok (.lload_n 3, 1) := by decide +kernel
theorem dX9_rightBy_57 : decode cX9_rightBy 57 = .ok (.lreturn, 1) := by decide +kernel
def f_X9_rightBy_b5 : Nat → St → Int32 → Int32 → Int64 → Int32 → Option (Int64 × St)
  | 0, _, _, _, _, _ => none
  | n + 1, σ, x1, x2, x3, x5 => chk (x1 < 0 ∨ 10 ≤ x1.toNatClampNeg) (if σ.2.2.1 301 0 x1.toNatClampNeg ≤ x5 then (some (x3, σ)) else (if (x2 >>> (x5 &&& 31)) &&& (1 : Int32) = 0 then (chk (x5 < 0 ∨ 6 ≤ x5.toNatClampNeg) (bnd (x3 * (((σ.2.2.1 452 0 x5.toNatClampNeg) : Int32).toInt64)) (fun v5 => bnd (x5 + 1) (fun v6 => f_X9_rightBy_b5 n σ x1 x2 v5 v6)))) else (chk (x5 < 0 ∨ 6 ≤ x5.toNatClampNeg) (bnd (x3 * (((σ.2.2.1 453 0 x5.toNatClampNeg) : Int32).toInt64)) (fun v8 => bnd (x5 + 1) (fun v9 => f_X9_rightBy_b5 n σ x1 x2 v8 v9))))))
def f_X9_rightBy (σ : St) (p1 : Int32) (p2 : Int32) : Option (Int64 × St) := f_X9_rightBy_b5 256 σ p1 p2 (1 : Int64) (0 : Int32)
set_option maxHeartbeats 4000000 in
set_option maxRecDepth 100000 in
theorem w_X9_rightBy_b5 {p : Program} {l : Launch} {e : Env} {s : State} {m : MethodId} {args : Array Value} {below : List Frame} {meth : Method} {c : Code} {g : va_G} {ts : ClassId × ClassId × ClassId} {A : Nat → Prop} {Q : State → Prop} {a : Nat → Nat} {r : Int64} {σ' : St} (C : FX p s m args meth c RX9 cX9_rightBy 6 g ts A) (hQ : RetL p l e (rk 0 0) s m args below meth c cX9_rightBy g (WC ts a) A r σ' Q) : ∀ (n : Nat) (σ : St) (x1 : Int32) (x2 : Int32) (x3 : Int64) (x5 : Int32) (H : Heap) (locs : List Loc) (ls : Array Slot), f_X9_rightBy_b5 n σ x1 x2 x3 x5 = some (r, σ') → va_P g classes (WC ts a σ) H → va_D A (WC ts a σ) → va_S A s.heap H locs → lv_has ls 6 [(0, .ref (a 12)), (1, .int x1), (2, .int x2), (3, .long x3), (5, .int x5)] → W p l e (rk 0 0) s m args below meth c H locs 0 0 Q (F0 m 5 ls []) := by
  have hx := C.1
  have hb := C.2.1
  have hown := C.2.2.2.1
  have hts := C.2.2.2.2.1
  intro n
  induction n with
  | zero =>
    intro σ x1 x2 x3 x5 H locs ls hf
    cases hf
  | succ n ih =>
    intro σ x1 x2 x3 x5 H locs ls hf hP hD hS hl
    rw [f_X9_rightBy_b5] at hf
    refine lv_iload hx hb dX9_rightBy_5 (lv_at hl 4 rfl) ?_
    refine lv_aload_n hx hb dX9_rightBy_7 rfl (lv_at hl 0 rfl) ?_
    refine G_X9_names C hP q_183 dX9_rightBy_8 ?_
    refine G_X6_sizes C hP q_157 dX9_rightBy_11 ?_
    refine lv_iload_n hx hb dX9_rightBy_14 rfl (lv_at hl 1 rfl) ?_
    obtain ⟨h1, hf⟩ := chk_some hf
    refine AL_X6_sizes C hP h1 dX9_rightBy_15 ?_
    refine lv_icmp_ge (tgt := 56) hx hb dX9_rightBy_16 (by decide) (fun c2 => ?_) (fun c2 => ?_)
    · replace hf := ipos c2 hf
      refine lv_lload_n hx hb dX9_rightBy_56 rfl (lv_at hl 3 rfl) ?_
      exact retL hQ hf dX9_rightBy_57 hP hD hS
    · replace hf := ineg c2 hf
      refine lv_lload_n hx hb dX9_rightBy_19 rfl (lv_at hl 3 rfl) ?_
      refine lv_iload_n hx hb dX9_rightBy_20 rfl (lv_at hl 2 rfl) ?_
      refine lv_iload hx hb dX9_rightBy_21 (lv_at hl 4 rfl) ?_
      refine lv_ishr hx hb dX9_rightBy_23 ?_
      refine lv_iconst (v := 1) hx hb dX9_rightBy_24 (by decide) ?_
      refine lv_iand hx hb dX9_rightBy_25 ?_
      refine lv_if_eq (tgt := 40) hx hb dX9_rightBy_26 (by decide) (fun c3 => ?_) (fun c3 => ?_)
      · replace hf := ipos c3 hf
        refine lv_aload_n hx hb dX9_rightBy_40 rfl (lv_at hl 0 rfl) ?_
        refine G_X9_plain C hP q_185 dX9_rightBy_41 ?_
        refine lv_iload hx hb dX9_rightBy_44 (lv_at hl 4 rfl) ?_
        obtain ⟨h4, hf⟩ := chk_some hf
        refine AL_X9_plain C hP h4 dX9_rightBy_46 ?_
        refine lv_i2l (v := ((σ.2.2.1 452 0 x5.toNatClampNeg) : Int32).toInt64) hx hb dX9_rightBy_47 rfl ?_
        refine lv_lmul hx hb dX9_rightBy_48 ?_
        refine lv_topl (fun v5 ev5 => ?_)
        replace hf := bnd_at ev5 hf
        refine lv_lstore_n (lv' := [(3, .long v5), (0, .ref (a 12)), (1, .int x1), (2, .int x2), (5, .int x5)]) hx hb dX9_rightBy_49 rfl hl (by decide) rfl (fun ls hl => ?_)
        obtain ⟨v6, ev6⟩ : ∃ z : Int32, z = x5 + 1 := ⟨_, rfl⟩
        replace hf := bnd_at ev6 hf
        refine lv_iinc (v := v6) (lv' := [(5, .int v6), (3, .long v5), (0, .ref (a 12)), (1, .int x1), (2, .int x2)]) hx hb dX9_rightBy_50 hl (k := 4) rfl (by rw [ev6]; rfl) (by decide) rfl (fun ls hl => ?_)
        refine lv_goto (tgt := 5) hx hb dX9_rightBy_53 (by decide) ?_
        exact ih _ _ _ _ _ _ _ _ hf hP hD hS (lv_sub hl [2, 3, 4, 1, 0] rfl)
      · replace hf := ineg c3 hf
        refine lv_aload_n hx hb dX9_rightBy_29 rfl (lv_at hl 0 rfl) ?_
        refine G_X9_byWord C hP q_186 dX9_rightBy_30 ?_
        refine lv_iload hx hb dX9_rightBy_33 (lv_at hl 4 rfl) ?_
        obtain ⟨h7, hf⟩ := chk_some hf
        refine AL_X9_byWord C hP h7 dX9_rightBy_35 ?_
        refine lv_i2l (v := ((σ.2.2.1 453 0 x5.toNatClampNeg) : Int32).toInt64) hx hb dX9_rightBy_36 rfl ?_
        refine lv_goto (tgt := 48) hx hb dX9_rightBy_37 (by decide) ?_
        refine lv_lmul hx hb dX9_rightBy_48 ?_
        refine lv_topl (fun v8 ev8 => ?_)
        replace hf := bnd_at ev8 hf
        refine lv_lstore_n (lv' := [(3, .long v8), (0, .ref (a 12)), (1, .int x1), (2, .int x2), (5, .int x5)]) hx hb dX9_rightBy_49 rfl hl (by decide) rfl (fun ls hl => ?_)
        obtain ⟨v9, ev9⟩ : ∃ z : Int32, z = x5 + 1 := ⟨_, rfl⟩
        replace hf := bnd_at ev9 hf
        refine lv_iinc (v := v9) (lv' := [(5, .int v9), (3, .long v8), (0, .ref (a 12)), (1, .int x1), (2, .int x2)]) hx hb dX9_rightBy_50 hl (k := 4) rfl (by rw [ev9]; rfl) (by decide) rfl (fun ls hl => ?_)
        refine lv_goto (tgt := 5) hx hb dX9_rightBy_53 (by decide) ?_
        exact ih _ _ _ _ _ _ _ _ hf hP hD hS (lv_sub hl [2, 3, 4, 1, 0] rfl)
set_option maxHeartbeats 4000000 in
set_option maxRecDepth 100000 in
theorem c_X9_rightBy {l : Launch} {g : va_G} {ts : ClassId × ClassId × ClassId} {a : Nat → Nat} {σ : St} {p1 : Int32} {p2 : Int32} {r : Int64} {σ' : St} (hf : f_X9_rightBy σ p1 p2 = some (r, σ')) : ConL l g ts (WC ts a) yX9_rightBy cX9_rightBy 6 (some .long) (rk 0 0) σ [.ref (a 12), .int p1, .int p2] r σ' := by
  refine ConL_mk rfl rfl (by decide) (Nat.le_of_ble_eq_true rfl) ?_
  intro p e s m below meth c A Q ls C hQ hP hD hS hl
  have C : FX p s m _ meth c RX9 cX9_rightBy 6 g ts A := C
  have hx := C.1
  have hb := C.2.1
  have hown := C.2.2.2.1
  have hts := C.2.2.2.2.1
  have hl : lv_has ls 6 [(0, .ref (a 12)), (1, .int p1), (2, .int p2)] := hl
  rw [f_X9_rightBy] at hf
  refine lv_lconst (v := 1) hx hb dX9_rightBy_0 (by decide) ?_
  refine lv_lstore_n (lv' := [(3, .long (1 : Int64)), (0, .ref (a 12)), (1, .int p1), (2, .int p2)]) hx hb dX9_rightBy_1 rfl hl (by decide) rfl (fun ls hl => ?_)
  refine lv_iconst (v := 0) hx hb dX9_rightBy_2 (by decide) ?_
  refine lv_istore (lv' := [(5, .int (0 : Int32)), (3, .long (1 : Int64)), (0, .ref (a 12)), (1, .int p1), (2, .int p2)]) hx hb dX9_rightBy_3 hl (by decide) rfl (fun ls hl => ?_)
  exact w_X9_rightBy_b5 C hQ 256 _ _ _ _ _ _ _ _ hf hP hD hS (lv_sub hl [2, 3, 4, 1, 0] rfl)
theorem dX9_lasts_0 : decode cX9_lasts 0 = .ok (.iconst 0, 1) := by decide +kernel
theorem dX9_lasts_1 : decode cX9_lasts 1 = .ok (.istore_n 3, 1) := by decide +kernel
theorem dX9_lasts_2 : decode cX9_lasts 2 = .ok (.iconst 0, 1) := by decide +kernel
theorem dX9_lasts_3 : decode cX9_lasts 3 = .ok (.istore 4, 2) := by decide +kernel
theorem dX9_lasts_5 : decode cX9_lasts 5 = .ok (.iload 4, 2) := by decide +kernel
theorem dX9_lasts_7 : decode cX9_lasts 7 = .ok (.aload_n 0, 1) := by decide +kernel
theorem dX9_lasts_8 : decode cX9_lasts 8 = .ok (.getfield 18, 3) := by decide +kernel
theorem dX9_lasts_11 : decode cX9_lasts 11 = .ok (.getfield 26, 3) := by decide +kernel
theorem dX9_lasts_14 : decode cX9_lasts 14 = .ok (.iload_n 1, 1) := by decide +kernel
theorem dX9_lasts_15 : decode cX9_lasts 15 = .ok (.iaload, 1) := by decide +kernel
theorem dX9_lasts_16 : decode cX9_lasts 16 = .ok (.if_icmp .ge 43, 3) := by decide +kernel
theorem dX9_lasts_19 : decode cX9_lasts 19 = .ok (.iload_n 3, 1) := by decide +kernel
theorem dX9_lasts_20 : decode cX9_lasts 20 = .ok (.iload_n 2, 1) := by decide +kernel
theorem dX9_lasts_21 : decode cX9_lasts 21 = .ok (.iload 4, 2) := by decide +kernel
theorem dX9_lasts_23 : decode cX9_lasts 23 = .ok (.ishr, 1) := by decide +kernel
theorem dX9_lasts_24 : decode cX9_lasts 24 = .ok (.iconst 1, 1) := by decide +kernel
theorem dX9_lasts_25 : decode cX9_lasts 25 = .ok (.iand, 1) := by decide +kernel
theorem dX9_lasts_26 : decode cX9_lasts 26 = .ok (.ifCond .eq 24, 3) := by decide +kernel
theorem dX9_lasts_29 : decode cX9_lasts 29 = .ok (.aload_n 0, 1) := by decide +kernel
theorem dX9_lasts_30 : decode cX9_lasts 30 = .ok (.getfield 22, 3) := by decide +kernel
theorem dX9_lasts_33 : decode cX9_lasts 33 = .ok (.getfield 44, 3) := by decide +kernel
theorem dX9_lasts_36 : decode cX9_lasts 36 = .ok (.aload_n 0, 1) := by decide +kernel
theorem dX9_lasts_37 : decode cX9_lasts 37 = .ok (.getfield 18, 3) := by decide +kernel
theorem dX9_lasts_40 : decode cX9_lasts 40 = .ok (.iload_n 1, 1) := by decide +kernel
theorem dX9_lasts_41 : decode cX9_lasts 41 = .ok (.iload 4, 2) := by decide +kernel
theorem dX9_lasts_43 : decode cX9_lasts 43 = .ok (.invokevirtual 31, 3) := by decide +kernel
theorem dX9_lasts_46 : decode cX9_lasts 46 = .ok (.iaload, 1) := by decide +kernel
theorem dX9_lasts_47 : decode cX9_lasts 47 = .ok (.goto 4, 3) := by decide +kernel
theorem dX9_lasts_50 : decode cX9_lasts 50 = .ok (.iconst 1, 1) := by decide +kernel
theorem dX9_lasts_51 : decode cX9_lasts 51 = .ok (.iadd, 1) := by decide +kernel
theorem dX9_lasts_52 : decode cX9_lasts 52 = .ok (.istore_n 3, 1) := by decide +kernel
theorem dX9_lasts_53 : decode cX9_lasts 53 = .ok (.iinc 4 1, 3) := by decide +kernel
theorem dX9_lasts_56 : decode cX9_lasts 56 = .ok (.goto (-51), 3) := by decide +kernel
theorem dX9_lasts_59 : decode cX9_lasts 59 = .ok (.iload_n 3, 1) := by decide +kernel
theorem dX9_lasts_60 : decode cX9_lasts 60 = .ok (.ireturn, 1) := by decide +kernel
def f_X9_lasts_b5 : Nat → St → Int32 → Int32 → Int32 → Int32 → Option (Int32 × St)
  | 0, _, _, _, _, _ => none
  | n + 1, σ, x1, x2, x3, x4 => chk (x1 < 0 ∨ 10 ≤ x1.toNatClampNeg) (if σ.2.2.1 301 0 x1.toNatClampNeg ≤ x4 then (some (x3, σ)) else (if (x2 >>> (x4 &&& 31)) &&& (1 : Int32) = 0 then (bnd (x3 + (1 : Int32)) (fun v4 => bnd (x4 + 1) (fun v5 => f_X9_lasts_b5 n σ x1 x2 v4 v5))) else (bnd2 (f_X6_at σ x1 x4) (fun r7 σ8 => chk (r7 < 0 ∨ 12 ≤ r7.toNatClampNeg) (bnd (x3 + (σ8.2.2.1 251 0 r7.toNatClampNeg)) (fun v10 => bnd (x4 + 1) (fun v11 => f_X9_lasts_b5 n σ8 x1 x2 v10 v11)))))))
def f_X9_lasts (σ : St) (p1 : Int32) (p2 : Int32) : Option (Int32 × St) := f_X9_lasts_b5 256 σ p1 p2 (0 : Int32) (0 : Int32)
set_option maxHeartbeats 4000000 in
set_option maxRecDepth 100000 in
theorem w_X9_lasts_b5 {p : Program} {l : Launch} {e : Env} {s : State} {m : MethodId} {args : Array Value} {below : List Frame} {meth : Method} {c : Code} {g : va_G} {ts : ClassId × ClassId × ClassId} {A : Nat → Prop} {Q : State → Prop} {a : Nat → Nat} {r : Int32} {σ' : St} (C : FX p s m args meth c RX9 cX9_lasts 5 g ts A) (hQ : RetI p l e (rk 1 22) s m args below meth c cX9_lasts g (WC ts a) A r σ' Q) : ∀ (n : Nat) (σ : St) (x1 : Int32) (x2 : Int32) (x3 : Int32) (x4 : Int32) (H : Heap) (locs : List Loc) (ls : Array Slot), f_X9_lasts_b5 n σ x1 x2 x3 x4 = some (r, σ') → va_P g classes (WC ts a σ) H → va_D A (WC ts a σ) → va_S A s.heap H locs → lv_has ls 5 [(0, .ref (a 12)), (1, .int x1), (2, .int x2), (3, .int x3), (4, .int x4)] → W p l e (rk 1 22) s m args below meth c H locs 0 0 Q (F0 m 5 ls []) := by
  have hx := C.1
  have hb := C.2.1
  have hown := C.2.2.2.1
  have hts := C.2.2.2.2.1
  intro n
  induction n with
  | zero =>
    intro σ x1 x2 x3 x4 H locs ls hf
    cases hf
  | succ n ih =>
    intro σ x1 x2 x3 x4 H locs ls hf hP hD hS hl
    rw [f_X9_lasts_b5] at hf
    refine lv_iload hx hb dX9_lasts_5 (lv_at hl 4 rfl) ?_
    refine lv_aload_n hx hb dX9_lasts_7 rfl (lv_at hl 0 rfl) ?_
    refine G_X9_names C hP q_183 dX9_lasts_8 ?_
    refine G_X6_sizes C hP q_157 dX9_lasts_11 ?_
    refine lv_iload_n hx hb dX9_lasts_14 rfl (lv_at hl 1 rfl) ?_
    obtain ⟨h1, hf⟩ := chk_some hf
    refine AL_X6_sizes C hP h1 dX9_lasts_15 ?_
    refine lv_icmp_ge (tgt := 59) hx hb dX9_lasts_16 (by decide) (fun c2 => ?_) (fun c2 => ?_)
    · replace hf := ipos c2 hf
      refine lv_iload_n hx hb dX9_lasts_59 rfl (lv_at hl 3 rfl) ?_
      exact retI hQ hf dX9_lasts_60 hP hD hS
    · replace hf := ineg c2 hf
      refine lv_iload_n hx hb dX9_lasts_19 rfl (lv_at hl 3 rfl) ?_
      refine lv_iload_n hx hb dX9_lasts_20 rfl (lv_at hl 2 rfl) ?_
      refine lv_iload hx hb dX9_lasts_21 (lv_at hl 4 rfl) ?_
      refine lv_ishr hx hb dX9_lasts_23 ?_
      refine lv_iconst (v := 1) hx hb dX9_lasts_24 (by decide) ?_
      refine lv_iand hx hb dX9_lasts_25 ?_
      refine lv_if_eq (tgt := 50) hx hb dX9_lasts_26 (by decide) (fun c3 => ?_) (fun c3 => ?_)
      · replace hf := ipos c3 hf
        refine lv_iconst (v := 1) hx hb dX9_lasts_50 (by decide) ?_
        refine lv_iadd hx hb dX9_lasts_51 ?_
        refine lv_topi (fun v4 ev4 => ?_)
        replace hf := bnd_at ev4 hf
        refine lv_istore_n (lv' := [(3, .int v4), (0, .ref (a 12)), (1, .int x1), (2, .int x2), (4, .int x4)]) hx hb dX9_lasts_52 rfl hl (by decide) rfl (fun ls hl => ?_)
        obtain ⟨v5, ev5⟩ : ∃ z : Int32, z = x4 + 1 := ⟨_, rfl⟩
        replace hf := bnd_at ev5 hf
        refine lv_iinc (v := v5) (lv' := [(4, .int v5), (3, .int v4), (0, .ref (a 12)), (1, .int x1), (2, .int x2)]) hx hb dX9_lasts_53 hl (k := 4) rfl (by rw [ev5]; rfl) (by decide) rfl (fun ls hl => ?_)
        refine lv_goto (tgt := 5) hx hb dX9_lasts_56 (by decide) ?_
        exact ih _ _ _ _ _ _ _ _ hf hP hD hS (lv_sub hl [2, 3, 4, 1, 0] rfl)
      · replace hf := ineg c3 hf
        refine lv_aload_n hx hb dX9_lasts_29 rfl (lv_at hl 0 rfl) ?_
        refine G_X9_line C hP q_184 dX9_lasts_30 ?_
        refine G_X5_longs C hP q_119 dX9_lasts_33 ?_
        refine lv_aload_n hx hb dX9_lasts_36 rfl (lv_at hl 0 rfl) ?_
        refine G_X9_names C hP q_183 dX9_lasts_37 ?_
        refine lv_iload_n hx hb dX9_lasts_40 rfl (lv_at hl 1 rfl) ?_
        refine lv_iload hx hb dX9_lasts_41 (lv_at hl 4 rfl) ?_
        obtain ⟨r7, σ8, h6, hf⟩ := bnd2_some hf
        refine vI [.ref (a 4), .int x3] C hP hD hS (c_X6_at h6) mv_X6_at q_757 rv_X6 dX9_lasts_43 ⟨Nat.le_of_ble_eq_true rfl, Nat.le_of_ble_eq_true rfl⟩ ⟨Nat.zero_le _, Nat.zero_le _⟩ rfl rfl (Nat.le_of_ble_eq_true rfl) hl.1 (fun H locs hP hD hS => ?_)
        obtain ⟨h9, hf⟩ := chk_some hf
        refine AL_X5_longs C hP h9 dX9_lasts_46 ?_
        refine lv_goto (tgt := 51) hx hb dX9_lasts_47 (by decide) ?_
        refine lv_iadd hx hb dX9_lasts_51 ?_
        refine lv_topi (fun v10 ev10 => ?_)
        replace hf := bnd_at ev10 hf
        refine lv_istore_n (lv' := [(3, .int v10), (0, .ref (a 12)), (1, .int x1), (2, .int x2), (4, .int x4)]) hx hb dX9_lasts_52 rfl hl (by decide) rfl (fun ls hl => ?_)
        obtain ⟨v11, ev11⟩ : ∃ z : Int32, z = x4 + 1 := ⟨_, rfl⟩
        replace hf := bnd_at ev11 hf
        refine lv_iinc (v := v11) (lv' := [(4, .int v11), (3, .int v10), (0, .ref (a 12)), (1, .int x1), (2, .int x2)]) hx hb dX9_lasts_53 hl (k := 4) rfl (by rw [ev11]; rfl) (by decide) rfl (fun ls hl => ?_)
        refine lv_goto (tgt := 5) hx hb dX9_lasts_56 (by decide) ?_
        exact ih _ _ _ _ _ _ _ _ hf hP hD hS (lv_sub hl [2, 3, 4, 1, 0] rfl)
set_option maxHeartbeats 4000000 in
set_option maxRecDepth 100000 in
theorem c_X9_lasts {l : Launch} {g : va_G} {ts : ClassId × ClassId × ClassId} {a : Nat → Nat} {σ : St} {p1 : Int32} {p2 : Int32} {r : Int32} {σ' : St} (hf : f_X9_lasts σ p1 p2 = some (r, σ')) : ConI l g ts (WC ts a) yX9_lasts cX9_lasts 5 (some .int) (rk 1 22) σ [.ref (a 12), .int p1, .int p2] r σ' := by
  refine ConI_mk .int rfl rfl rfl rfl (by decide) (Nat.le_of_ble_eq_true rfl) ?_
  intro p e s m below meth c A Q ls C hQ hP hD hS hl
  have C : FX p s m _ meth c RX9 cX9_lasts 5 g ts A := C
  have hx := C.1
  have hb := C.2.1
  have hown := C.2.2.2.1
  have hts := C.2.2.2.2.1
  have hl : lv_has ls 5 [(0, .ref (a 12)), (1, .int p1), (2, .int p2)] := hl
  rw [f_X9_lasts] at hf
  refine lv_iconst (v := 0) hx hb dX9_lasts_0 (by decide) ?_
  refine lv_istore_n (lv' := [(3, .int (0 : Int32)), (0, .ref (a 12)), (1, .int p1), (2, .int p2)]) hx hb dX9_lasts_1 rfl hl (by decide) rfl (fun ls hl => ?_)
  refine lv_iconst (v := 0) hx hb dX9_lasts_2 (by decide) ?_
  refine lv_istore (lv' := [(4, .int (0 : Int32)), (3, .int (0 : Int32)), (0, .ref (a 12)), (1, .int p1), (2, .int p2)]) hx hb dX9_lasts_3 hl (by decide) rfl (fun ls hl => ?_)
  exact w_X9_lasts_b5 C hQ 256 _ _ _ _ _ _ _ _ hf hP hD hS (lv_sub hl [2, 3, 4, 1, 0] rfl)
theorem dX9_leastSet_0 : decode cX9_leastSet 0 = .ok (.bipush (-2), 2) := by decide +kernel
theorem dX9_leastSet_2 : decode cX9_leastSet 2 = .ok (.istore_n 3, 1) := by decide +kernel
theorem dX9_leastSet_3 : decode cX9_leastSet 3 = .ok (.iconst 0, 1) := by decide +kernel
theorem dX9_leastSet_4 : decode cX9_leastSet 4 = .ok (.istore 4, 2) := by decide +kernel
theorem dX9_leastSet_6 : decode cX9_leastSet 6 = .ok (.iload_n 2, 1) := by decide +kernel
theorem dX9_leastSet_7 : decode cX9_leastSet 7 = .ok (.i2l, 1) := by decide +kernel
theorem dX9_leastSet_8 : decode cX9_leastSet 8 = .ok (.getstatic 47, 3) := by decide +kernel
theorem dX9_leastSet_11 : decode cX9_leastSet 11 = .ok (.aload_n 0, 1) := by decide +kernel
theorem dX9_leastSet_12 : decode cX9_leastSet 12 = .ok (.getfield 18, 3) := by decide +kernel
theorem dX9_leastSet_15 : decode cX9_leastSet 15 = .ok (.getfield 26, 3) := by decide +kernel
theorem dX9_leastSet_18 : decode cX9_leastSet 18 = .ok (.iload_n 1, 1) := by decide +kernel
theorem dX9_leastSet_19 : decode cX9_leastSet 19 = .ok (.iaload, 1) := by decide +kernel
theorem dX9_leastSet_20 : decode cX9_leastSet 20 = .ok (.laload, 1) := by decide +kernel
theorem dX9_leastSet_21 : decode cX9_leastSet 21 = .ok (.lmul, 1) := by decide +kernel
theorem dX9_leastSet_22 : decode cX9_leastSet 22 = .ok (.lstore 5, 2) := by decide +kernel
theorem dX9_leastSet_24 : decode cX9_leastSet 24 = .ok (.iconst 0, 1) := by decide +kernel
theorem dX9_leastSet_25 : decode cX9_leastSet 25 = .ok (.istore 7, 2) := by decide +kernel
theorem dX9_leastSet_27 : decode cX9_leastSet 27 = .ok (.iload 7, 2) := by decide +kernel
theorem dX9_leastSet_29 : decode cX9_leastSet 29 = .ok (.iconst 1, 1) := by decide +kernel
theorem dX9_leastSet_30 : decode cX9_leastSet 30 = .ok (.aload_n 0, 1) := by decide +kernel
theorem dX9_leastSet_31 : decode cX9_leastSet 31 = .ok (.getfield 18, 3) := by decide +kernel
theorem dX9_leastSet_34 : decode cX9_leastSet 34 = .ok (.getfield 26, 3) := by decide +kernel
theorem dX9_leastSet_37 : decode cX9_leastSet 37 = .ok (.iload_n 1, 1) := by decide +kernel
theorem dX9_leastSet_38 : decode cX9_leastSet 38 = .ok (.iaload, 1) := by decide +kernel
theorem dX9_leastSet_39 : decode cX9_leastSet 39 = .ok (.ishl, 1) := by decide +kernel
theorem dX9_leastSet_40 : decode cX9_leastSet 40 = .ok (.if_icmp .ge 53, 3) := by decide +kernel
theorem dX9_leastSet_43 : decode cX9_leastSet 43 = .ok (.aload_n 0, 1) := by decide +kernel
theorem dX9_leastSet_44 : decode cX9_leastSet 44 = .ok (.iload_n 1, 1) := by decide +kernel
theorem dX9_leastSet_45 : decode cX9_leastSet 45 = .ok (.iload 7, 2) := by decide +kernel
theorem dX9_leastSet_47 : decode cX9_leastSet 47 = .ok (.invokevirtual 51, 3) := by decide +kernel
theorem dX9_leastSet_50 : decode cX9_leastSet 50 = .ok (.istore 8, 2) := by decide +kernel
theorem dX9_leastSet_52 : decode cX9_leastSet 52 = .ok (.iload_n 3, 1) := by decide +kernel
theorem dX9_leastSet_53 : decode cX9_leastSet 53 = .ok (.ifCond .lt 10, 3) := by decide +kernel
theorem dX9_leastSet_56 : decode cX9_leastSet 56 = .ok (.iload 8, 2) := by decide +kernel
theorem dX9_leastSet_58 : decode cX9_leastSet 58 = .ok (.iload 4, 2) := by decide +kernel
theorem dX9_leastSet_60 : decode cX9_leastSet 60 = .ok (.if_icmp .ge 27, 3) := by decide +kernel
theorem dX9_leastSet_63 : decode cX9_leastSet 63 = .ok (.ldc2_w 54, 3) := by decide +kernel
theorem dX9_leastSet_66 : decode cX9_leastSet 66 = .ok (.aload_n 0, 1) := by decide +kernel
theorem dX9_leastSet_67 : decode cX9_leastSet 67 = .ok (.iload_n 1, 1) := by decide +kernel
theorem dX9_leastSet_68 : decode cX9_leastSet 68 = .ok (.iload 7, 2) := by decide +kernel
theorem dX9_leastSet_70 : decode cX9_leastSet 70 = .ok (.invokevirtual 56, 3) := by decide +kernel
theorem dX9_leastSet_73 : decode cX9_leastSet 73 = .ok (.lmul, 1) := by decide +kernel
theorem dX9_leastSet_74 : decode cX9_leastSet 74 = .ok (.lload 5, 2) := by decide +kernel
theorem dX9_leastSet_76 : decode cX9_leastSet 76 = .ok (.lcmp, 1) := by decide +kernel
theorem dX9_leastSet_77 : decode cX9_leastSet 77 = .ok (.ifCond .le 10, 3) := by decide +kernel
theorem dX9_leastSet_80 : decode cX9_leastSet 80 = .ok (.iload 7, 2) := by decide +kernel
theorem dX9_leastSet_82 : decode cX9_leastSet 82 = .ok (.istore_n 3, 1) := by decide +kernel
theorem dX9_leastSet_83 : decode cX9_leastSet 83 = .ok (.iload 8, 2) := by decide +kernel
theorem dX9_leastSet_85 : decode cX9_leastSet 85 = .ok (.istore 4, 2) := by decide +kernel
theorem dX9_leastSet_87 : decode cX9_leastSet 87 = .ok (.iinc 7 1, 3) := by decide +kernel
theorem dX9_leastSet_90 : decode cX9_leastSet 90 = .ok (.goto (-63), 3) := by decide +kernel
theorem dX9_leastSet_93 : decode cX9_leastSet 93 = .ok (.iload_n 3, 1) := by decide +kernel
theorem dX9_leastSet_94 : decode cX9_leastSet 94 = .ok (.ireturn, 1) := by decide +kernel
def f_X9_leastSet_b63 (k27 : St → Int32 → Int32 → Int32 → Int64 → Int32 → Option (Int32 × St)) (σ : St) (x1 : Int32) (x3 : Int32) (x4 : Int32) (x5 : Int64) (x7 : Int32) (x8 : Int32) : Option (Int32 × St) := bnd2 (f_X9_rightBy σ x1 x7) (fun r14 σ15 => if (12 : Int64) * r14 ≤ x5 then (bnd (x7 + 1) (fun v17 => k27 σ15 x1 x3 x4 x5 v17)) else (bnd (x7 + 1) (fun v18 => k27 σ15 x1 x7 x8 x5 v18)))
def f_X9_leastSet_b27 : Nat → St → Int32 → Int32 → Int32 → Int64 → Int32 → Option (Int32 × St)
  | 0, _, _, _, _, _, _ => none
  | n + 1, σ, x1, x3, x4, x5, x7 => chk (x1 < 0 ∨ 10 ≤ x1.toNatClampNeg) (if (1 : Int32) <<< ((σ.2.2.1 301 0 x1.toNatClampNeg) &&& 31) ≤ x7 then (some (x3, σ)) else (bnd2 (f_X9_lasts σ x1 x7) (fun r8 σ9 => if x3 < 0 then (f_X9_leastSet_b63 (f_X9_leastSet_b27 n) σ9 x1 x3 x4 x5 x7 r8) else (if x4 ≤ r8 then (bnd (x7 + 1) (fun v12 => f_X9_leastSet_b27 n σ9 x1 x3 x4 x5 v12)) else (f_X9_leastSet_b63 (f_X9_leastSet_b27 n) σ9 x1 x3 x4 x5 x7 r8)))))
def f_X9_leastSet (σ : St) (p1 : Int32) (p2 : Int32) : Option (Int32 × St) := chk (p1 < 0 ∨ 10 ≤ p1.toNatClampNeg) (chk (σ.2.2.1 301 0 p1.toNatClampNeg < 0 ∨ 7 ≤ (σ.2.2.1 301 0 p1.toNatClampNeg).toNatClampNeg) (bnd (((p2 : Int32).toInt64) * (hundA (σ.2.2.1 301 0 p1.toNatClampNeg).toNatClampNeg)) (fun v4 => f_X9_leastSet_b27 256 σ p1 (-2 : Int32) (0 : Int32) v4 (0 : Int32))))
set_option maxHeartbeats 4000000 in
set_option maxRecDepth 100000 in
theorem w_X9_leastSet_b63 {p : Program} {l : Launch} {e : Env} {s : State} {m : MethodId} {args : Array Value} {below : List Frame} {meth : Method} {c : Code} {g : va_G} {ts : ClassId × ClassId × ClassId} {A : Nat → Prop} {Q : State → Prop} {a : Nat → Nat} {r : Int32} {σ' : St} {k27 : St → Int32 → Int32 → Int32 → Int64 → Int32 → Option (Int32 × St)} (C : FX p s m args meth c RX9 cX9_leastSet 9 g ts A) (hQ : RetI p l e (rk 2 46) s m args below meth c cX9_leastSet g (WC ts a) A r σ' Q) (hk27 : ∀ (σ : St) (x1 : Int32) (x3 : Int32) (x4 : Int32) (x5 : Int64) (x7 : Int32) (H : Heap) (locs : List Loc) (ls : Array Slot), k27 σ x1 x3 x4 x5 x7 = some (r, σ') → va_P g classes (WC ts a σ) H → va_D A (WC ts a σ) → va_S A s.heap H locs → lv_has ls 9 [(0, .ref (a 12)), (1, .int x1), (3, .int x3), (4, .int x4), (5, .long x5), (7, .int x7)] → W p l e (rk 2 46) s m args below meth c H locs 0 0 Q (F0 m 27 ls [])) : ∀ (σ : St) (x1 : Int32) (x3 : Int32) (x4 : Int32) (x5 : Int64) (x7 : Int32) (x8 : Int32) (H : Heap) (locs : List Loc) (ls : Array Slot), f_X9_leastSet_b63 k27 σ x1 x3 x4 x5 x7 x8 = some (r, σ') → va_P g classes (WC ts a σ) H → va_D A (WC ts a σ) → va_S A s.heap H locs → lv_has ls 9 [(0, .ref (a 12)), (1, .int x1), (3, .int x3), (4, .int x4), (5, .long x5), (7, .int x7), (8, .int x8)] → W p l e (rk 2 46) s m args below meth c H locs 0 0 Q (F0 m 63 ls []) := by
  have hx := C.1
  have hb := C.2.1
  have hown := C.2.2.2.1
  have hts := C.2.2.2.2.1
  intro σ x1 x3 x4 x5 x7 x8 H locs ls hf hP hD hS hl
  rw [f_X9_leastSet_b63] at hf
  refine lv_ldc2 hx hb hown (hts _ q_783) dX9_leastSet_63 ?_
  refine lv_aload_n hx hb dX9_leastSet_66 rfl (lv_at hl 0 rfl) ?_
  refine lv_iload_n hx hb dX9_leastSet_67 rfl (lv_at hl 1 rfl) ?_
  refine lv_iload hx hb dX9_leastSet_68 (lv_at hl 5 rfl) ?_
  obtain ⟨r14, σ15, h13, hf⟩ := bnd2_some hf
  refine vL [.long (12 : Int64)] C hP hD hS (c_X9_rightBy h13) mv_X9_rightBy q_784 rv_X9 dX9_leastSet_70 ⟨Nat.le_of_ble_eq_true rfl, Nat.le_of_ble_eq_true rfl⟩ ⟨Nat.zero_le _, Nat.zero_le _⟩ rfl rfl (Nat.le_of_ble_eq_true rfl) hl.1 (fun H locs hP hD hS => ?_)
  refine lv_lmul hx hb dX9_leastSet_73 ?_
  refine lv_lload hx hb dX9_leastSet_74 (lv_at hl 4 rfl) ?_
  refine lb_le (tgt := 87) hx hb dX9_leastSet_76 dX9_leastSet_77 (by decide) (fun c16 => ?_) (fun c16 => ?_)
  · replace hf := ipos c16 hf
    obtain ⟨v17, ev17⟩ : ∃ z : Int32, z = x7 + 1 := ⟨_, rfl⟩
    replace hf := bnd_at ev17 hf
    refine lv_iinc (v := v17) (lv' := [(7, .int v17), (0, .ref (a 12)), (1, .int x1), (3, .int x3), (4, .int x4), (5, .long x5), (8, .int x8)]) hx hb dX9_leastSet_87 hl (k := 5) rfl (by rw [ev17]; rfl) (by decide) rfl (fun ls hl => ?_)
    refine lv_goto (tgt := 27) hx hb dX9_leastSet_90 (by decide) ?_
    exact hk27 _ _ _ _ _ _ _ _ _ hf hP hD hS (lv_sub hl [1, 2, 3, 4, 5, 0] rfl)
  · replace hf := ineg c16 hf
    refine lv_iload hx hb dX9_leastSet_80 (lv_at hl 5 rfl) ?_
    refine lv_istore_n (lv' := [(3, .int x7), (0, .ref (a 12)), (1, .int x1), (4, .int x4), (5, .long x5), (7, .int x7), (8, .int x8)]) hx hb dX9_leastSet_82 rfl hl (by decide) rfl (fun ls hl => ?_)
    refine lv_iload hx hb dX9_leastSet_83 (lv_at hl 6 rfl) ?_
    refine lv_istore (lv' := [(4, .int x8), (3, .int x7), (0, .ref (a 12)), (1, .int x1), (5, .long x5), (7, .int x7), (8, .int x8)]) hx hb dX9_leastSet_85 hl (by decide) rfl (fun ls hl => ?_)
    obtain ⟨v18, ev18⟩ : ∃ z : Int32, z = x7 + 1 := ⟨_, rfl⟩
    replace hf := bnd_at ev18 hf
    refine lv_iinc (v := v18) (lv' := [(7, .int v18), (4, .int x8), (3, .int x7), (0, .ref (a 12)), (1, .int x1), (5, .long x5), (8, .int x8)]) hx hb dX9_leastSet_87 hl (k := 5) rfl (by rw [ev18]; rfl) (by decide) rfl (fun ls hl => ?_)
    refine lv_goto (tgt := 27) hx hb dX9_leastSet_90 (by decide) ?_
    exact hk27 _ _ _ _ _ _ _ _ _ hf hP hD hS (lv_sub hl [3, 4, 2, 1, 5, 0] rfl)
set_option maxHeartbeats 4000000 in
set_option maxRecDepth 100000 in
theorem w_X9_leastSet_b27 {p : Program} {l : Launch} {e : Env} {s : State} {m : MethodId} {args : Array Value} {below : List Frame} {meth : Method} {c : Code} {g : va_G} {ts : ClassId × ClassId × ClassId} {A : Nat → Prop} {Q : State → Prop} {a : Nat → Nat} {r : Int32} {σ' : St} (C : FX p s m args meth c RX9 cX9_leastSet 9 g ts A) (hQ : RetI p l e (rk 2 46) s m args below meth c cX9_leastSet g (WC ts a) A r σ' Q) : ∀ (n : Nat) (σ : St) (x1 : Int32) (x3 : Int32) (x4 : Int32) (x5 : Int64) (x7 : Int32) (H : Heap) (locs : List Loc) (ls : Array Slot), f_X9_leastSet_b27 n σ x1 x3 x4 x5 x7 = some (r, σ') → va_P g classes (WC ts a σ) H → va_D A (WC ts a σ) → va_S A s.heap H locs → lv_has ls 9 [(0, .ref (a 12)), (1, .int x1), (3, .int x3), (4, .int x4), (5, .long x5), (7, .int x7)] → W p l e (rk 2 46) s m args below meth c H locs 0 0 Q (F0 m 27 ls []) := by
  have hx := C.1
  have hb := C.2.1
  have hown := C.2.2.2.1
  have hts := C.2.2.2.2.1
  intro n
  induction n with
  | zero =>
    intro σ x1 x3 x4 x5 x7 H locs ls hf
    cases hf
  | succ n ih =>
    intro σ x1 x3 x4 x5 x7 H locs ls hf hP hD hS hl
    rw [f_X9_leastSet_b27] at hf
    refine lv_iload hx hb dX9_leastSet_27 (lv_at hl 5 rfl) ?_
    refine lv_iconst (v := 1) hx hb dX9_leastSet_29 (by decide) ?_
    refine lv_aload_n hx hb dX9_leastSet_30 rfl (lv_at hl 0 rfl) ?_
    refine G_X9_names C hP q_183 dX9_leastSet_31 ?_
    refine G_X6_sizes C hP q_157 dX9_leastSet_34 ?_
    refine lv_iload_n hx hb dX9_leastSet_37 rfl (lv_at hl 1 rfl) ?_
    obtain ⟨h5, hf⟩ := chk_some hf
    refine AL_X6_sizes C hP h5 dX9_leastSet_38 ?_
    refine lv_ishl hx hb dX9_leastSet_39 ?_
    refine lv_icmp_ge (tgt := 93) hx hb dX9_leastSet_40 (by decide) (fun c6 => ?_) (fun c6 => ?_)
    · replace hf := ipos c6 hf
      refine lv_iload_n hx hb dX9_leastSet_93 rfl (lv_at hl 2 rfl) ?_
      exact retI hQ hf dX9_leastSet_94 hP hD hS
    · replace hf := ineg c6 hf
      refine lv_aload_n hx hb dX9_leastSet_43 rfl (lv_at hl 0 rfl) ?_
      refine lv_iload_n hx hb dX9_leastSet_44 rfl (lv_at hl 1 rfl) ?_
      refine lv_iload hx hb dX9_leastSet_45 (lv_at hl 5 rfl) ?_
      obtain ⟨r8, σ9, h7, hf⟩ := bnd2_some hf
      refine vI [] C hP hD hS (c_X9_lasts h7) mv_X9_lasts q_782 rv_X9 dX9_leastSet_47 ⟨Nat.le_of_ble_eq_true rfl, Nat.le_of_ble_eq_true rfl⟩ ⟨Nat.zero_le _, Nat.zero_le _⟩ rfl rfl (Nat.le_of_ble_eq_true rfl) hl.1 (fun H locs hP hD hS => ?_)
      refine lv_istore (lv' := [(8, .int r8), (0, .ref (a 12)), (1, .int x1), (3, .int x3), (4, .int x4), (5, .long x5), (7, .int x7)]) hx hb dX9_leastSet_50 hl (by decide) rfl (fun ls hl => ?_)
      refine lv_iload_n hx hb dX9_leastSet_52 rfl (lv_at hl 3 rfl) ?_
      refine lv_if_lt (tgt := 63) hx hb dX9_leastSet_53 (by decide) (fun c10 => ?_) (fun c10 => ?_)
      · replace hf := ipos c10 hf
        exact w_X9_leastSet_b63 C hQ ih _ _ _ _ _ _ _ _ _ _ hf hP hD hS (lv_sub hl [1, 2, 3, 4, 5, 6, 0] rfl)
      · replace hf := ineg c10 hf
        refine lv_iload hx hb dX9_leastSet_56 (lv_at hl 0 rfl) ?_
        refine lv_iload hx hb dX9_leastSet_58 (lv_at hl 4 rfl) ?_
        refine lv_icmp_ge (tgt := 87) hx hb dX9_leastSet_60 (by decide) (fun c11 => ?_) (fun c11 => ?_)
        · replace hf := ipos c11 hf
          obtain ⟨v12, ev12⟩ : ∃ z : Int32, z = x7 + 1 := ⟨_, rfl⟩
          replace hf := bnd_at ev12 hf
          refine lv_iinc (v := v12) (lv' := [(7, .int v12), (8, .int r8), (0, .ref (a 12)), (1, .int x1), (3, .int x3), (4, .int x4), (5, .long x5)]) hx hb dX9_leastSet_87 hl (k := 6) rfl (by rw [ev12]; rfl) (by decide) rfl (fun ls hl => ?_)
          refine lv_goto (tgt := 27) hx hb dX9_leastSet_90 (by decide) ?_
          exact ih _ _ _ _ _ _ _ _ _ hf hP hD hS (lv_sub hl [2, 3, 4, 5, 6, 0] rfl)
        · replace hf := ineg c11 hf
          exact w_X9_leastSet_b63 C hQ ih _ _ _ _ _ _ _ _ _ _ hf hP hD hS (lv_sub hl [1, 2, 3, 4, 5, 6, 0] rfl)
set_option maxHeartbeats 4000000 in
set_option maxRecDepth 100000 in
theorem c_X9_leastSet {l : Launch} {g : va_G} {ts : ClassId × ClassId × ClassId} {a : Nat → Nat} {σ : St} {p1 : Int32} {p2 : Int32} {r : Int32} {σ' : St} (hf : f_X9_leastSet σ p1 p2 = some (r, σ')) : ConI l g ts (WC ts a) yX9_leastSet cX9_leastSet 9 (some .int) (rk 2 46) σ [.ref (a 12), .int p1, .int p2] r σ' := by
  refine ConI_mk .int rfl rfl rfl rfl (by decide) (Nat.le_of_ble_eq_true rfl) ?_
  intro p e s m below meth c A Q ls C hQ hP hD hS hl
  have C : FX p s m _ meth c RX9 cX9_leastSet 9 g ts A := C
  have hx := C.1
  have hb := C.2.1
  have hown := C.2.2.2.1
  have hts := C.2.2.2.2.1
  have hl : lv_has ls 9 [(0, .ref (a 12)), (1, .int p1), (2, .int p2)] := hl
  rw [f_X9_leastSet] at hf
  refine lv_bipush (v := -2) hx hb dX9_leastSet_0 (by decide) ?_
  refine lv_istore_n (lv' := [(3, .int (-2 : Int32)), (0, .ref (a 12)), (1, .int p1), (2, .int p2)]) hx hb dX9_leastSet_2 rfl hl (by decide) rfl (fun ls hl => ?_)
  refine lv_iconst (v := 0) hx hb dX9_leastSet_3 (by decide) ?_
  refine lv_istore (lv' := [(4, .int (0 : Int32)), (3, .int (-2 : Int32)), (0, .ref (a 12)), (1, .int p1), (2, .int p2)]) hx hb dX9_leastSet_4 hl (by decide) rfl (fun ls hl => ?_)
  refine lv_iload_n hx hb dX9_leastSet_6 rfl (lv_at hl 4 rfl) ?_
  refine lv_i2l (v := (p2 : Int32).toInt64) hx hb dX9_leastSet_7 rfl ?_
  obtain ⟨t1, hZt1, hTt1⟩ := C.2.2.2.2.2.2.2.2.1
  refine va_getsN hx hb hZt1 hS hown (va_Nw.use rfl (C.2.2.2.2.2.2.2.1 _ (by decide +kernel : Cond.fieldLinkNest RX9 47 "AsInBertha" "HUNDREDS" "[J" RX11 ∈ nestW))) (fun _ h => h) dX9_leastSet_8 ?_
  refine lv_aload_n hx hb dX9_leastSet_11 rfl (lv_at hl 2 rfl) ?_
  refine G_X9_names C hP q_183 dX9_leastSet_12 ?_
  refine G_X6_sizes C hP q_157 dX9_leastSet_15 ?_
  refine lv_iload_n hx hb dX9_leastSet_18 rfl (lv_at hl 3 rfl) ?_
  obtain ⟨h2, hf⟩ := chk_some hf
  refine AL_X6_sizes C hP h2 dX9_leastSet_19 ?_
  obtain ⟨h3, hf⟩ := chk_some hf
  refine va_tl hx hb hTt1 hS h3 rfl dX9_leastSet_20 ?_
  refine lv_lmul hx hb dX9_leastSet_21 ?_
  refine lv_topl (fun v4 ev4 => ?_)
  replace hf := bnd_at ev4 hf
  refine lv_lstore (lv' := [(5, .long v4), (4, .int (0 : Int32)), (3, .int (-2 : Int32)), (0, .ref (a 12)), (1, .int p1), (2, .int p2)]) hx hb dX9_leastSet_22 hl (by decide) rfl (fun ls hl => ?_)
  refine lv_iconst (v := 0) hx hb dX9_leastSet_24 (by decide) ?_
  refine lv_istore (lv' := [(7, .int (0 : Int32)), (5, .long v4), (4, .int (0 : Int32)), (3, .int (-2 : Int32)), (0, .ref (a 12)), (1, .int p1), (2, .int p2)]) hx hb dX9_leastSet_25 hl (by decide) rfl (fun ls hl => ?_)
  exact w_X9_leastSet_b27 C hQ 256 _ _ _ _ _ _ _ _ _ hf hP hD hS (lv_sub hl [4, 5, 3, 2, 1, 0] rfl)
theorem dX9_weakest_0 : decode cX9_weakest 0 = .ok (.iconst 0, 1) := by decide +kernel
theorem dX9_weakest_1 : decode cX9_weakest 1 = .ok (.istore_n 2, 1) := by decide +kernel
theorem dX9_weakest_2 : decode cX9_weakest 2 = .ok (.bipush 101, 2) := by decide +kernel
theorem dX9_weakest_4 : decode cX9_weakest 4 = .ok (.istore_n 3, 1) := by decide +kernel
theorem dX9_weakest_5 : decode cX9_weakest 5 = .ok (.iconst 0, 1) := by decide +kernel
theorem dX9_weakest_6 : decode cX9_weakest 6 = .ok (.istore 4, 2) := by decide +kernel
theorem dX9_weakest_8 : decode cX9_weakest 8 = .ok (.iload 4, 2) := by decide +kernel
theorem dX9_weakest_10 : decode cX9_weakest 10 = .ok (.aload_n 0, 1) := by decide +kernel
theorem dX9_weakest_11 : decode cX9_weakest 11 = .ok (.getfield 18, 3) := by decide +kernel
theorem dX9_weakest_14 : decode cX9_weakest 14 = .ok (.getfield 26, 3) := by decide +kernel
theorem dX9_weakest_17 : decode cX9_weakest 17 = .ok (.iload_n 1, 1) := by decide +kernel
theorem dX9_weakest_18 : decode cX9_weakest 18 = .ok (.iaload, 1) := by decide +kernel
theorem dX9_weakest_19 : decode cX9_weakest 19 = .ok (.if_icmp .ge 51, 3) := by decide +kernel
theorem dX9_weakest_22 : decode cX9_weakest 22 = .ok (.aload_n 0, 1) := by decide +kernel
theorem dX9_weakest_23 : decode cX9_weakest 23 = .ok (.getfield 22, 3) := by decide +kernel
theorem dX9_weakest_26 : decode cX9_weakest 26 = .ok (.aload_n 0, 1) := by decide +kernel
theorem dX9_weakest_27 : decode cX9_weakest 27 = .ok (.getfield 18, 3) := by decide +kernel
theorem dX9_weakest_30 : decode cX9_weakest 30 = .ok (.iload_n 1, 1) := by decide +kernel
theorem dX9_weakest_31 : decode cX9_weakest 31 = .ok (.iload 4, 2) := by decide +kernel
theorem dX9_weakest_33 : decode cX9_weakest 33 = .ok (.invokevirtual 31, 3) := by decide +kernel
theorem dX9_weakest_36 : decode cX9_weakest 36 = .ok (.aload_n 0, 1) := by decide +kernel
theorem dX9_weakest_37 : decode cX9_weakest 37 = .ok (.getfield 18, 3) := by decide +kernel
theorem dX9_weakest_40 : decode cX9_weakest 40 = .ok (.iload_n 1, 1) := by decide +kernel
theorem dX9_weakest_41 : decode cX9_weakest 41 = .ok (.iload 4, 2) := by decide +kernel
theorem dX9_weakest_43 : decode cX9_weakest 43 = .ok (.invokevirtual 31, 3) := by decide +kernel
theorem dX9_weakest_46 : decode cX9_weakest 46 = .ok (.iconst 0, 1) := by decide +kernel
theorem dX9_weakest_47 : decode cX9_weakest 47 = .ok (.invokevirtual 40, 3) := by decide +kernel
theorem dX9_weakest_50 : decode cX9_weakest 50 = .ok (.istore 5, 2) := by decide +kernel
theorem dX9_weakest_52 : decode cX9_weakest 52 = .ok (.iload 5, 2) := by decide +kernel
theorem dX9_weakest_54 : decode cX9_weakest 54 = .ok (.iload_n 3, 1) := by decide +kernel
theorem dX9_weakest_55 : decode cX9_weakest 55 = .ok (.if_icmp .ge 9, 3) := by decide +kernel
theorem dX9_weakest_58 : decode cX9_weakest 58 = .ok (.iload 4, 2) := by decide +kernel
theorem dX9_weakest_60 : decode cX9_weakest 60 = .ok (.istore_n 2, 1) := by decide +kernel
theorem dX9_weakest_61 : decode cX9_weakest 61 = .ok (.iload 5, 2) := by decide +kernel
theorem dX9_weakest_63 : decode cX9_weakest 63 = .ok (.istore_n 3, 1) := by decide +kernel
theorem dX9_weakest_64 : decode cX9_weakest 64 = .ok (.iinc 4 1, 3) := by decide +kernel
theorem dX9_weakest_67 : decode cX9_weakest 67 = .ok (.goto (-59), 3) := by decide +kernel
theorem dX9_weakest_70 : decode cX9_weakest 70 = .ok (.iload_n 2, 1) := by decide +kernel
theorem dX9_weakest_71 : decode cX9_weakest 71 = .ok (.ireturn, 1) := by decide +kernel
def f_X9_weakest_b8 : Nat → St → Int32 → Int32 → Int32 → Int32 → Option (Int32 × St)
  | 0, _, _, _, _, _ => none
  | n + 1, σ, x1, x2, x3, x4 => chk (x1 < 0 ∨ 10 ≤ x1.toNatClampNeg) (if σ.2.2.1 301 0 x1.toNatClampNeg ≤ x4 then (some (x2, σ)) else (bnd2 (f_X6_at σ x1 x4) (fun r4 σ5 => bnd2 (f_X6_at σ5 x1 x4) (fun r7 σ8 => bnd2 (f_X5_parts σ8 r4 r7 (0 : Int32)) (fun r10 σ11 => if x3 ≤ r10 then (bnd (x4 + 1) (fun v13 => f_X9_weakest_b8 n σ11 x1 x2 x3 v13)) else (bnd (x4 + 1) (fun v14 => f_X9_weakest_b8 n σ11 x1 x4 r10 v14)))))))
def f_X9_weakest (σ : St) (p1 : Int32) : Option (Int32 × St) := f_X9_weakest_b8 256 σ p1 (0 : Int32) (101 : Int32) (0 : Int32)
set_option maxHeartbeats 4000000 in
set_option maxRecDepth 100000 in
theorem w_X9_weakest_b8 {p : Program} {l : Launch} {e : Env} {s : State} {m : MethodId} {args : Array Value} {below : List Frame} {meth : Method} {c : Code} {g : va_G} {ts : ClassId × ClassId × ClassId} {A : Nat → Prop} {Q : State → Prop} {a : Nat → Nat} {r : Int32} {σ' : St} (C : FX p s m args meth c RX9 cX9_weakest 6 g ts A) (hQ : RetI p l e (rk 4 106) s m args below meth c cX9_weakest g (WC ts a) A r σ' Q) : ∀ (n : Nat) (σ : St) (x1 : Int32) (x2 : Int32) (x3 : Int32) (x4 : Int32) (H : Heap) (locs : List Loc) (ls : Array Slot), f_X9_weakest_b8 n σ x1 x2 x3 x4 = some (r, σ') → va_P g classes (WC ts a σ) H → va_D A (WC ts a σ) → va_S A s.heap H locs → lv_has ls 6 [(0, .ref (a 12)), (1, .int x1), (2, .int x2), (3, .int x3), (4, .int x4)] → W p l e (rk 4 106) s m args below meth c H locs 0 0 Q (F0 m 8 ls []) := by
  have hx := C.1
  have hb := C.2.1
  have hown := C.2.2.2.1
  have hts := C.2.2.2.2.1
  intro n
  induction n with
  | zero =>
    intro σ x1 x2 x3 x4 H locs ls hf
    cases hf
  | succ n ih =>
    intro σ x1 x2 x3 x4 H locs ls hf hP hD hS hl
    rw [f_X9_weakest_b8] at hf
    refine lv_iload hx hb dX9_weakest_8 (lv_at hl 4 rfl) ?_
    refine lv_aload_n hx hb dX9_weakest_10 rfl (lv_at hl 0 rfl) ?_
    refine G_X9_names C hP q_183 dX9_weakest_11 ?_
    refine G_X6_sizes C hP q_157 dX9_weakest_14 ?_
    refine lv_iload_n hx hb dX9_weakest_17 rfl (lv_at hl 1 rfl) ?_
    obtain ⟨h1, hf⟩ := chk_some hf
    refine AL_X6_sizes C hP h1 dX9_weakest_18 ?_
    refine lv_icmp_ge (tgt := 70) hx hb dX9_weakest_19 (by decide) (fun c2 => ?_) (fun c2 => ?_)
    · replace hf := ipos c2 hf
      refine lv_iload_n hx hb dX9_weakest_70 rfl (lv_at hl 2 rfl) ?_
      exact retI hQ hf dX9_weakest_71 hP hD hS
    · replace hf := ineg c2 hf
      refine lv_aload_n hx hb dX9_weakest_22 rfl (lv_at hl 0 rfl) ?_
      refine G_X9_line C hP q_184 dX9_weakest_23 ?_
      refine lv_aload_n hx hb dX9_weakest_26 rfl (lv_at hl 0 rfl) ?_
      refine G_X9_names C hP q_183 dX9_weakest_27 ?_
      refine lv_iload_n hx hb dX9_weakest_30 rfl (lv_at hl 1 rfl) ?_
      refine lv_iload hx hb dX9_weakest_31 (lv_at hl 4 rfl) ?_
      obtain ⟨r4, σ5, h3, hf⟩ := bnd2_some hf
      refine vI [.ref (a 2)] C hP hD hS (c_X6_at h3) mv_X6_at q_757 rv_X6 dX9_weakest_33 ⟨Nat.le_of_ble_eq_true rfl, Nat.le_of_ble_eq_true rfl⟩ ⟨Nat.zero_le _, Nat.zero_le _⟩ rfl rfl (Nat.le_of_ble_eq_true rfl) hl.1 (fun H locs hP hD hS => ?_)
      refine lv_aload_n hx hb dX9_weakest_36 rfl (lv_at hl 0 rfl) ?_
      refine G_X9_names C hP q_183 dX9_weakest_37 ?_
      refine lv_iload_n hx hb dX9_weakest_40 rfl (lv_at hl 1 rfl) ?_
      refine lv_iload hx hb dX9_weakest_41 (lv_at hl 4 rfl) ?_
      obtain ⟨r7, σ8, h6, hf⟩ := bnd2_some hf
      refine vI [.int r4, .ref (a 2)] C hP hD hS (c_X6_at h6) mv_X6_at q_757 rv_X6 dX9_weakest_43 ⟨Nat.le_of_ble_eq_true rfl, Nat.le_of_ble_eq_true rfl⟩ ⟨Nat.zero_le _, Nat.zero_le _⟩ rfl rfl (Nat.le_of_ble_eq_true rfl) hl.1 (fun H locs hP hD hS => ?_)
      refine lv_iconst (v := 0) hx hb dX9_weakest_46 (by decide) ?_
      obtain ⟨r10, σ11, h9, hf⟩ := bnd2_some hf
      refine vI [] C hP hD hS (c_X5_parts h9) mv_X5_parts q_758 rv_X5 dX9_weakest_47 ⟨Nat.le_of_ble_eq_true rfl, Nat.le_of_ble_eq_true rfl⟩ ⟨Nat.zero_le _, Nat.zero_le _⟩ rfl rfl (Nat.le_of_ble_eq_true rfl) hl.1 (fun H locs hP hD hS => ?_)
      refine lv_istore (lv' := [(5, .int r10), (0, .ref (a 12)), (1, .int x1), (2, .int x2), (3, .int x3), (4, .int x4)]) hx hb dX9_weakest_50 hl (by decide) rfl (fun ls hl => ?_)
      refine lv_iload hx hb dX9_weakest_52 (lv_at hl 0 rfl) ?_
      refine lv_iload_n hx hb dX9_weakest_54 rfl (lv_at hl 4 rfl) ?_
      refine lv_icmp_ge (tgt := 64) hx hb dX9_weakest_55 (by decide) (fun c12 => ?_) (fun c12 => ?_)
      · replace hf := ipos c12 hf
        obtain ⟨v13, ev13⟩ : ∃ z : Int32, z = x4 + 1 := ⟨_, rfl⟩
        replace hf := bnd_at ev13 hf
        refine lv_iinc (v := v13) (lv' := [(4, .int v13), (5, .int r10), (0, .ref (a 12)), (1, .int x1), (2, .int x2), (3, .int x3)]) hx hb dX9_weakest_64 hl (k := 5) rfl (by rw [ev13]; rfl) (by decide) rfl (fun ls hl => ?_)
        refine lv_goto (tgt := 8) hx hb dX9_weakest_67 (by decide) ?_
        exact ih _ _ _ _ _ _ _ _ hf hP hD hS (lv_sub hl [2, 3, 4, 5, 0] rfl)
      · replace hf := ineg c12 hf
        refine lv_iload hx hb dX9_weakest_58 (lv_at hl 5 rfl) ?_
        refine lv_istore_n (lv' := [(2, .int x4), (5, .int r10), (0, .ref (a 12)), (1, .int x1), (3, .int x3), (4, .int x4)]) hx hb dX9_weakest_60 rfl hl (by decide) rfl (fun ls hl => ?_)
        refine lv_iload hx hb dX9_weakest_61 (lv_at hl 1 rfl) ?_
        refine lv_istore_n (lv' := [(3, .int r10), (2, .int x4), (5, .int r10), (0, .ref (a 12)), (1, .int x1), (4, .int x4)]) hx hb dX9_weakest_63 rfl hl (by decide) rfl (fun ls hl => ?_)
        obtain ⟨v14, ev14⟩ : ∃ z : Int32, z = x4 + 1 := ⟨_, rfl⟩
        replace hf := bnd_at ev14 hf
        refine lv_iinc (v := v14) (lv' := [(4, .int v14), (3, .int r10), (2, .int x4), (5, .int r10), (0, .ref (a 12)), (1, .int x1)]) hx hb dX9_weakest_64 hl (k := 5) rfl (by rw [ev14]; rfl) (by decide) rfl (fun ls hl => ?_)
        refine lv_goto (tgt := 8) hx hb dX9_weakest_67 (by decide) ?_
        exact ih _ _ _ _ _ _ _ _ hf hP hD hS (lv_sub hl [4, 5, 2, 1, 0] rfl)
set_option maxHeartbeats 4000000 in
set_option maxRecDepth 100000 in
theorem c_X9_weakest {l : Launch} {g : va_G} {ts : ClassId × ClassId × ClassId} {a : Nat → Nat} {σ : St} {p1 : Int32} {r : Int32} {σ' : St} (hf : f_X9_weakest σ p1 = some (r, σ')) : ConI l g ts (WC ts a) yX9_weakest cX9_weakest 6 (some .int) (rk 4 106) σ [.ref (a 12), .int p1] r σ' := by
  refine ConI_mk .int rfl rfl rfl rfl (by decide) (Nat.le_of_ble_eq_true rfl) ?_
  intro p e s m below meth c A Q ls C hQ hP hD hS hl
  have C : FX p s m _ meth c RX9 cX9_weakest 6 g ts A := C
  have hx := C.1
  have hb := C.2.1
  have hown := C.2.2.2.1
  have hts := C.2.2.2.2.1
  have hl : lv_has ls 6 [(0, .ref (a 12)), (1, .int p1)] := hl
  rw [f_X9_weakest] at hf
  refine lv_iconst (v := 0) hx hb dX9_weakest_0 (by decide) ?_
  refine lv_istore_n (lv' := [(2, .int (0 : Int32)), (0, .ref (a 12)), (1, .int p1)]) hx hb dX9_weakest_1 rfl hl (by decide) rfl (fun ls hl => ?_)
  refine lv_bipush (v := 101) hx hb dX9_weakest_2 (by decide) ?_
  refine lv_istore_n (lv' := [(3, .int (101 : Int32)), (2, .int (0 : Int32)), (0, .ref (a 12)), (1, .int p1)]) hx hb dX9_weakest_4 rfl hl (by decide) rfl (fun ls hl => ?_)
  refine lv_iconst (v := 0) hx hb dX9_weakest_5 (by decide) ?_
  refine lv_istore (lv' := [(4, .int (0 : Int32)), (3, .int (101 : Int32)), (2, .int (0 : Int32)), (0, .ref (a 12)), (1, .int p1)]) hx hb dX9_weakest_6 hl (by decide) rfl (fun ls hl => ?_)
  exact w_X9_weakest_b8 C hQ 256 _ _ _ _ _ _ _ _ hf hP hD hS (lv_sub hl [3, 4, 2, 1, 0] rfl)
theorem dX9_heardAs_0 : decode cX9_heardAs 0 = .ok (.lconst 1, 1) := by decide +kernel
theorem dX9_heardAs_1 : decode cX9_heardAs 1 = .ok (.lstore_n 3, 1) := by decide +kernel
theorem dX9_heardAs_2 : decode cX9_heardAs 2 = .ok (.iconst 0, 1) := by decide +kernel
theorem dX9_heardAs_3 : decode cX9_heardAs 3 = .ok (.istore 5, 2) := by decide +kernel
theorem dX9_heardAs_5 : decode cX9_heardAs 5 = .ok (.iload 5, 2) := by decide +kernel
theorem dX9_heardAs_7 : decode cX9_heardAs 7 = .ok (.aload_n 0, 1) := by decide +kernel
theorem dX9_heardAs_8 : decode cX9_heardAs 8 = .ok (.getfield 18, 3) := by decide +kernel
theorem dX9_heardAs_11 : decode cX9_heardAs 11 = .ok (.getfield 26, 3) := by decide +kernel
theorem dX9_heardAs_14 : decode cX9_heardAs 14 = .ok (.iload_n 1, 1) := by decide +kernel
theorem dX9_heardAs_15 : decode cX9_heardAs 15 = .ok (.iaload, 1) := by decide +kernel
theorem dX9_heardAs_16 : decode cX9_heardAs 16 = .ok (.if_icmp .ge 41, 3) := by decide +kernel
theorem dX9_heardAs_19 : decode cX9_heardAs 19 = .ok (.lload_n 3, 1) := by decide +kernel
theorem dX9_heardAs_20 : decode cX9_heardAs 20 = .ok (.aload_n 0, 1) := by decide +kernel
theorem dX9_heardAs_21 : decode cX9_heardAs 21 = .ok (.getfield 22, 3) := by decide +kernel
theorem dX9_heardAs_24 : decode cX9_heardAs 24 = .ok (.aload_n 0, 1) := by decide +kernel
theorem dX9_heardAs_25 : decode cX9_heardAs 25 = .ok (.getfield 18, 3) := by decide +kernel
theorem dX9_heardAs_28 : decode cX9_heardAs 28 = .ok (.iload_n 1, 1) := by decide +kernel
theorem dX9_heardAs_29 : decode cX9_heardAs 29 = .ok (.iload 5, 2) := by decide +kernel
theorem dX9_heardAs_31 : decode cX9_heardAs 31 = .ok (.invokevirtual 31, 3) := by decide +kernel
theorem dX9_heardAs_34 : decode cX9_heardAs 34 = .ok (.aload_n 0, 1) := by decide +kernel
theorem dX9_heardAs_35 : decode cX9_heardAs 35 = .ok (.getfield 18, 3) := by decide +kernel
theorem dX9_heardAs_38 : decode cX9_heardAs 38 = .ok (.iload_n 2, 1) := by decide +kernel
theorem dX9_heardAs_39 : decode cX9_heardAs 39 = .ok (.iload 5, 2) := by decide +kernel
theorem dX9_heardAs_41 : decode cX9_heardAs 41 = .ok (.invokevirtual 31, 3) := by decide +kernel
theorem dX9_heardAs_44 : decode cX9_heardAs 44 = .ok (.iconst 0, 1) := by decide +kernel
theorem dX9_heardAs_45 : decode cX9_heardAs 45 = .ok (.invokevirtual 40, 3) := by decide +kernel
theorem dX9_heardAs_48 : decode cX9_heardAs 48 = .ok (.i2l, 1) := by decide +kernel
theorem dX9_heardAs_49 : decode cX9_heardAs 49 = .ok (.lmul, 1) := by decide +kernel
theorem dX9_heardAs_50 : decode cX9_heardAs 50 = .ok (.lstore_n 3, 1) := by decide +kernel
theorem dX9_heardAs_51 : decode cX9_heardAs 51 = .ok (.iinc 5 1, 3) := by decide +kernel
theorem dX9_heardAs_54 : decode cX9_heardAs 54 = .ok (.goto (-49), 3) := by decide +kernel
theorem dX9_heardAs_57 : decode cX9_heardAs 57 = .ok (.lload_n 3, 1) := by decide +kernel
theorem dX9_heardAs_58 : decode cX9_heardAs 58 = .ok (.lreturn, 1) := by decide +kernel
def f_X9_heardAs_b5 : Nat → St → Int32 → Int32 → Int64 → Int32 → Option (Int64 × St)
  | 0, _, _, _, _, _ => none
  | n + 1, σ, x1, x2, x3, x5 => chk (x1 < 0 ∨ 10 ≤ x1.toNatClampNeg) (if σ.2.2.1 301 0 x1.toNatClampNeg ≤ x5 then (some (x3, σ)) else (bnd2 (f_X6_at σ x1 x5) (fun r4 σ5 => bnd2 (f_X6_at σ5 x2 x5) (fun r7 σ8 => bnd2 (f_X5_parts σ8 r4 r7 (0 : Int32)) (fun r10 σ11 => bnd (x3 * ((r10 : Int32).toInt64)) (fun v12 => bnd (x5 + 1) (fun v13 => f_X9_heardAs_b5 n σ11 x1 x2 v12 v13)))))))
def f_X9_heardAs (σ : St) (p1 : Int32) (p2 : Int32) : Option (Int64 × St) := f_X9_heardAs_b5 256 σ p1 p2 (1 : Int64) (0 : Int32)
set_option maxHeartbeats 4000000 in
set_option maxRecDepth 100000 in
theorem w_X9_heardAs_b5 {p : Program} {l : Launch} {e : Env} {s : State} {m : MethodId} {args : Array Value} {below : List Frame} {meth : Method} {c : Code} {g : va_G} {ts : ClassId × ClassId × ClassId} {A : Nat → Prop} {Q : State → Prop} {a : Nat → Nat} {r : Int64} {σ' : St} (C : FX p s m args meth c RX9 cX9_heardAs 6 g ts A) (hQ : RetL p l e (rk 4 106) s m args below meth c cX9_heardAs g (WC ts a) A r σ' Q) : ∀ (n : Nat) (σ : St) (x1 : Int32) (x2 : Int32) (x3 : Int64) (x5 : Int32) (H : Heap) (locs : List Loc) (ls : Array Slot), f_X9_heardAs_b5 n σ x1 x2 x3 x5 = some (r, σ') → va_P g classes (WC ts a σ) H → va_D A (WC ts a σ) → va_S A s.heap H locs → lv_has ls 6 [(0, .ref (a 12)), (1, .int x1), (2, .int x2), (3, .long x3), (5, .int x5)] → W p l e (rk 4 106) s m args below meth c H locs 0 0 Q (F0 m 5 ls []) := by
  have hx := C.1
  have hb := C.2.1
  have hown := C.2.2.2.1
  have hts := C.2.2.2.2.1
  intro n
  induction n with
  | zero =>
    intro σ x1 x2 x3 x5 H locs ls hf
    cases hf
  | succ n ih =>
    intro σ x1 x2 x3 x5 H locs ls hf hP hD hS hl
    rw [f_X9_heardAs_b5] at hf
    refine lv_iload hx hb dX9_heardAs_5 (lv_at hl 4 rfl) ?_
    refine lv_aload_n hx hb dX9_heardAs_7 rfl (lv_at hl 0 rfl) ?_
    refine G_X9_names C hP q_183 dX9_heardAs_8 ?_
    refine G_X6_sizes C hP q_157 dX9_heardAs_11 ?_
    refine lv_iload_n hx hb dX9_heardAs_14 rfl (lv_at hl 1 rfl) ?_
    obtain ⟨h1, hf⟩ := chk_some hf
    refine AL_X6_sizes C hP h1 dX9_heardAs_15 ?_
    refine lv_icmp_ge (tgt := 57) hx hb dX9_heardAs_16 (by decide) (fun c2 => ?_) (fun c2 => ?_)
    · replace hf := ipos c2 hf
      refine lv_lload_n hx hb dX9_heardAs_57 rfl (lv_at hl 3 rfl) ?_
      exact retL hQ hf dX9_heardAs_58 hP hD hS
    · replace hf := ineg c2 hf
      refine lv_lload_n hx hb dX9_heardAs_19 rfl (lv_at hl 3 rfl) ?_
      refine lv_aload_n hx hb dX9_heardAs_20 rfl (lv_at hl 0 rfl) ?_
      refine G_X9_line C hP q_184 dX9_heardAs_21 ?_
      refine lv_aload_n hx hb dX9_heardAs_24 rfl (lv_at hl 0 rfl) ?_
      refine G_X9_names C hP q_183 dX9_heardAs_25 ?_
      refine lv_iload_n hx hb dX9_heardAs_28 rfl (lv_at hl 1 rfl) ?_
      refine lv_iload hx hb dX9_heardAs_29 (lv_at hl 4 rfl) ?_
      obtain ⟨r4, σ5, h3, hf⟩ := bnd2_some hf
      refine vI [.ref (a 2), .long x3] C hP hD hS (c_X6_at h3) mv_X6_at q_757 rv_X6 dX9_heardAs_31 ⟨Nat.le_of_ble_eq_true rfl, Nat.le_of_ble_eq_true rfl⟩ ⟨Nat.zero_le _, Nat.zero_le _⟩ rfl rfl (Nat.le_of_ble_eq_true rfl) hl.1 (fun H locs hP hD hS => ?_)
      refine lv_aload_n hx hb dX9_heardAs_34 rfl (lv_at hl 0 rfl) ?_
      refine G_X9_names C hP q_183 dX9_heardAs_35 ?_
      refine lv_iload_n hx hb dX9_heardAs_38 rfl (lv_at hl 2 rfl) ?_
      refine lv_iload hx hb dX9_heardAs_39 (lv_at hl 4 rfl) ?_
      obtain ⟨r7, σ8, h6, hf⟩ := bnd2_some hf
      refine vI [.int r4, .ref (a 2), .long x3] C hP hD hS (c_X6_at h6) mv_X6_at q_757 rv_X6 dX9_heardAs_41 ⟨Nat.le_of_ble_eq_true rfl, Nat.le_of_ble_eq_true rfl⟩ ⟨Nat.zero_le _, Nat.zero_le _⟩ rfl rfl (Nat.le_of_ble_eq_true rfl) hl.1 (fun H locs hP hD hS => ?_)
      refine lv_iconst (v := 0) hx hb dX9_heardAs_44 (by decide) ?_
      obtain ⟨r10, σ11, h9, hf⟩ := bnd2_some hf
      refine vI [.long x3] C hP hD hS (c_X5_parts h9) mv_X5_parts q_758 rv_X5 dX9_heardAs_45 ⟨Nat.le_of_ble_eq_true rfl, Nat.le_of_ble_eq_true rfl⟩ ⟨Nat.zero_le _, Nat.zero_le _⟩ rfl rfl (Nat.le_of_ble_eq_true rfl) hl.1 (fun H locs hP hD hS => ?_)
      refine lv_i2l (v := (r10 : Int32).toInt64) hx hb dX9_heardAs_48 rfl ?_
      refine lv_lmul hx hb dX9_heardAs_49 ?_
      refine lv_topl (fun v12 ev12 => ?_)
      replace hf := bnd_at ev12 hf
      refine lv_lstore_n (lv' := [(3, .long v12), (0, .ref (a 12)), (1, .int x1), (2, .int x2), (5, .int x5)]) hx hb dX9_heardAs_50 rfl hl (by decide) rfl (fun ls hl => ?_)
      obtain ⟨v13, ev13⟩ : ∃ z : Int32, z = x5 + 1 := ⟨_, rfl⟩
      replace hf := bnd_at ev13 hf
      refine lv_iinc (v := v13) (lv' := [(5, .int v13), (3, .long v12), (0, .ref (a 12)), (1, .int x1), (2, .int x2)]) hx hb dX9_heardAs_51 hl (k := 4) rfl (by rw [ev13]; rfl) (by decide) rfl (fun ls hl => ?_)
      refine lv_goto (tgt := 5) hx hb dX9_heardAs_54 (by decide) ?_
      exact ih _ _ _ _ _ _ _ _ hf hP hD hS (lv_sub hl [2, 3, 4, 1, 0] rfl)
set_option maxHeartbeats 4000000 in
set_option maxRecDepth 100000 in
theorem c_X9_heardAs {l : Launch} {g : va_G} {ts : ClassId × ClassId × ClassId} {a : Nat → Nat} {σ : St} {p1 : Int32} {p2 : Int32} {r : Int64} {σ' : St} (hf : f_X9_heardAs σ p1 p2 = some (r, σ')) : ConL l g ts (WC ts a) yX9_heardAs cX9_heardAs 6 (some .long) (rk 4 106) σ [.ref (a 12), .int p1, .int p2] r σ' := by
  refine ConL_mk rfl rfl (by decide) (Nat.le_of_ble_eq_true rfl) ?_
  intro p e s m below meth c A Q ls C hQ hP hD hS hl
  have C : FX p s m _ meth c RX9 cX9_heardAs 6 g ts A := C
  have hx := C.1
  have hb := C.2.1
  have hown := C.2.2.2.1
  have hts := C.2.2.2.2.1
  have hl : lv_has ls 6 [(0, .ref (a 12)), (1, .int p1), (2, .int p2)] := hl
  rw [f_X9_heardAs] at hf
  refine lv_lconst (v := 1) hx hb dX9_heardAs_0 (by decide) ?_
  refine lv_lstore_n (lv' := [(3, .long (1 : Int64)), (0, .ref (a 12)), (1, .int p1), (2, .int p2)]) hx hb dX9_heardAs_1 rfl hl (by decide) rfl (fun ls hl => ?_)
  refine lv_iconst (v := 0) hx hb dX9_heardAs_2 (by decide) ?_
  refine lv_istore (lv' := [(5, .int (0 : Int32)), (3, .long (1 : Int64)), (0, .ref (a 12)), (1, .int p1), (2, .int p2)]) hx hb dX9_heardAs_3 hl (by decide) rfl (fun ls hl => ?_)
  exact w_X9_heardAs_b5 C hQ 256 _ _ _ _ _ _ _ _ hf hP hD hS (lv_sub hl [2, 3, 4, 1, 0] rfl)
theorem dX9_closestTo_0 : decode cX9_closestTo 0 = .ok (.bipush (-2), 2) := by decide +kernel
theorem dX9_closestTo_2 : decode cX9_closestTo 2 = .ok (.istore_n 2, 1) := by decide +kernel
theorem dX9_closestTo_3 : decode cX9_closestTo 3 = .ok (.ldc2_w 60, 3) := by decide +kernel
theorem dX9_closestTo_6 : decode cX9_closestTo 6 = .ok (.lstore_n 3, 1) := by decide +kernel
theorem dX9_closestTo_7 : decode cX9_closestTo 7 = .ok (.iconst 0, 1) := by decide +kernel
theorem dX9_closestTo_8 : decode cX9_closestTo 8 = .ok (.istore 5, 2) := by decide +kernel
theorem dX9_closestTo_10 : decode cX9_closestTo 10 = .ok (.iload 5, 2) := by decide +kernel
theorem dX9_closestTo_12 : decode cX9_closestTo 12 = .ok (.aload_n 0, 1) := by decide +kernel
theorem dX9_closestTo_13 : decode cX9_closestTo 13 = .ok (.getfield 18, 3) := by decide +kernel
theorem dX9_closestTo_16 : decode cX9_closestTo 16 = .ok (.getfield 62, 3) := by decide +kernel
theorem dX9_closestTo_19 : decode cX9_closestTo 19 = .ok (.if_icmp .ge 50, 3) := by decide +kernel
theorem dX9_closestTo_22 : decode cX9_closestTo 22 = .ok (.iload 5, 2) := by decide +kernel
theorem dX9_closestTo_24 : decode cX9_closestTo 24 = .ok (.iload_n 1, 1) := by decide +kernel
theorem dX9_closestTo_25 : decode cX9_closestTo 25 = .ok (.if_icmp .eq 38, 3) := by decide +kernel
theorem dX9_closestTo_28 : decode cX9_closestTo 28 = .ok (.aload_n 0, 1) := by decide +kernel
theorem dX9_closestTo_29 : decode cX9_closestTo 29 = .ok (.getfield 18, 3) := by decide +kernel
theorem dX9_closestTo_32 : decode cX9_closestTo 32 = .ok (.iload_n 1, 1) := by decide +kernel
theorem dX9_closestTo_33 : decode cX9_closestTo 33 = .ok (.iload 5, 2) := by decide +kernel
theorem dX9_closestTo_35 : decode cX9_closestTo 35 = .ok (.invokevirtual 66, 3) := by decide +kernel
theorem dX9_closestTo_38 : decode cX9_closestTo 38 = .ok (.ifCond .eq 25, 3) := by decide +kernel
theorem dX9_closestTo_41 : decode cX9_closestTo 41 = .ok (.aload_n 0, 1) := by decide +kernel
theorem dX9_closestTo_42 : decode cX9_closestTo 42 = .ok (.iload_n 1, 1) := by decide +kernel
theorem dX9_closestTo_43 : decode cX9_closestTo 43 = .ok (.iload 5, 2) := by decide +kernel
theorem dX9_closestTo_45 : decode cX9_closestTo 45 = .ok (.invokevirtual 70, 3) := by decide +kernel
theorem dX9_closestTo_48 : decode cX9_closestTo 48 = .ok (.lstore 6, 2) := by decide +kernel
theorem dX9_closestTo_50 : decode cX9_closestTo 50 = .ok (.lload 6, 2) := by decide +kernel
theorem dX9_closestTo_52 : decode cX9_closestTo 52 = .ok (.lload_n 3, 1) := by decide +kernel
theorem dX9_closestTo_53 : decode cX9_closestTo 53 = .ok (.lcmp, 1) := by decide +kernel
theorem dX9_closestTo_54 : decode cX9_closestTo 54 = .ok (.ifCond .le 9, 3) := by decide +kernel
theorem dX9_closestTo_57 : decode cX9_closestTo 57 = .ok (.iload 5, 2) := by decide +kernel
theorem dX9_closestTo_59 : decode cX9_closestTo 59 = .ok (.istore_n 2, 1) := by decide +kernel
theorem dX9_closestTo_60 : decode cX9_closestTo 60 = .ok (.lload 6, 2) := by decide +kernel
theorem dX9_closestTo_62 : decode cX9_closestTo 62 = .ok (.lstore_n 3, 1) := by decide +kernel
theorem dX9_closestTo_63 : decode cX9_closestTo 63 = .ok (.iinc 5 1, 3) := by decide +kernel
theorem dX9_closestTo_66 : decode cX9_closestTo 66 = .ok (.goto (-56), 3) := by decide +kernel
theorem dX9_closestTo_69 : decode cX9_closestTo 69 = .ok (.iload_n 2, 1) := by decide +kernel
theorem dX9_closestTo_70 : decode cX9_closestTo 70 = .ok (.ireturn, 1) := by decide +kernel
def f_X9_closestTo_b10 : Nat → St → Int32 → Int32 → Int64 → Int32 → Option (Int32 × St)
  | 0, _, _, _, _, _ => none
  | n + 1, σ, x1, x2, x3, x5 => if σ.1 303 0 ≤ x5 then (some (x2, σ)) else (if x5 = x1 then (bnd (x5 + 1) (fun v3 => f_X9_closestTo_b10 n σ x1 x2 x3 v3)) else (bnd2 (f_X6_areEven σ x1 x5) (fun r5 σ6 => if r5 = 0 then (bnd (x5 + 1) (fun v8 => f_X9_closestTo_b10 n σ6 x1 x2 x3 v8)) else (bnd2 (f_X9_heardAs σ6 x1 x5) (fun r10 σ11 => if r10 ≤ x3 then (bnd (x5 + 1) (fun v13 => f_X9_closestTo_b10 n σ11 x1 x2 x3 v13)) else (bnd (x5 + 1) (fun v14 => f_X9_closestTo_b10 n σ11 x1 x5 r10 v14)))))))
def f_X9_closestTo (σ : St) (p1 : Int32) : Option (Int32 × St) := f_X9_closestTo_b10 256 σ p1 (-2 : Int32) (-1 : Int64) (0 : Int32)
set_option maxHeartbeats 4000000 in
set_option maxRecDepth 100000 in
theorem w_X9_closestTo_b10 {p : Program} {l : Launch} {e : Env} {s : State} {m : MethodId} {args : Array Value} {below : List Frame} {meth : Method} {c : Code} {g : va_G} {ts : ClassId × ClassId × ClassId} {A : Nat → Prop} {Q : State → Prop} {a : Nat → Nat} {r : Int32} {σ' : St} (C : FX p s m args meth c RX9 cX9_closestTo 8 g ts A) (hQ : RetI p l e (rk 5 131) s m args below meth c cX9_closestTo g (WC ts a) A r σ' Q) : ∀ (n : Nat) (σ : St) (x1 : Int32) (x2 : Int32) (x3 : Int64) (x5 : Int32) (H : Heap) (locs : List Loc) (ls : Array Slot), f_X9_closestTo_b10 n σ x1 x2 x3 x5 = some (r, σ') → va_P g classes (WC ts a σ) H → va_D A (WC ts a σ) → va_S A s.heap H locs → lv_has ls 8 [(0, .ref (a 12)), (1, .int x1), (2, .int x2), (3, .long x3), (5, .int x5)] → W p l e (rk 5 131) s m args below meth c H locs 0 0 Q (F0 m 10 ls []) := by
  have hx := C.1
  have hb := C.2.1
  have hown := C.2.2.2.1
  have hts := C.2.2.2.2.1
  intro n
  induction n with
  | zero =>
    intro σ x1 x2 x3 x5 H locs ls hf
    cases hf
  | succ n ih =>
    intro σ x1 x2 x3 x5 H locs ls hf hP hD hS hl
    rw [f_X9_closestTo_b10] at hf
    refine lv_iload hx hb dX9_closestTo_10 (lv_at hl 4 rfl) ?_
    refine lv_aload_n hx hb dX9_closestTo_12 rfl (lv_at hl 0 rfl) ?_
    refine G_X9_names C hP q_183 dX9_closestTo_13 ?_
    refine G_X6_number C hP q_167 dX9_closestTo_16 ?_
    refine lv_icmp_ge (tgt := 69) hx hb dX9_closestTo_19 (by decide) (fun c1 => ?_) (fun c1 => ?_)
    · replace hf := ipos c1 hf
      refine lv_iload_n hx hb dX9_closestTo_69 rfl (lv_at hl 2 rfl) ?_
      exact retI hQ hf dX9_closestTo_70 hP hD hS
    · replace hf := ineg c1 hf
      refine lv_iload hx hb dX9_closestTo_22 (lv_at hl 4 rfl) ?_
      refine lv_iload_n hx hb dX9_closestTo_24 rfl (lv_at hl 1 rfl) ?_
      refine lv_icmp_eq (tgt := 63) hx hb dX9_closestTo_25 (by decide) (fun c2 => ?_) (fun c2 => ?_)
      · replace hf := ipos c2 hf
        obtain ⟨v3, ev3⟩ : ∃ z : Int32, z = x5 + 1 := ⟨_, rfl⟩
        replace hf := bnd_at ev3 hf
        refine lv_iinc (v := v3) (lv' := [(5, .int v3), (0, .ref (a 12)), (1, .int x1), (2, .int x2), (3, .long x3)]) hx hb dX9_closestTo_63 hl (k := 4) rfl (by rw [ev3]; rfl) (by decide) rfl (fun ls hl => ?_)
        refine lv_goto (tgt := 10) hx hb dX9_closestTo_66 (by decide) ?_
        exact ih _ _ _ _ _ _ _ _ hf hP hD hS (lv_sub hl [1, 2, 3, 4, 0] rfl)
      · replace hf := ineg c2 hf
        refine lv_aload_n hx hb dX9_closestTo_28 rfl (lv_at hl 0 rfl) ?_
        refine G_X9_names C hP q_183 dX9_closestTo_29 ?_
        refine lv_iload_n hx hb dX9_closestTo_32 rfl (lv_at hl 1 rfl) ?_
        refine lv_iload hx hb dX9_closestTo_33 (lv_at hl 4 rfl) ?_
        obtain ⟨r5, σ6, h4, hf⟩ := bnd2_some hf
        refine vI [] C hP hD hS (c_X6_areEven h4) mv_X6_areEven q_814 rv_X6 dX9_closestTo_35 ⟨Nat.le_of_ble_eq_true rfl, Nat.le_of_ble_eq_true rfl⟩ ⟨Nat.zero_le _, Nat.zero_le _⟩ rfl rfl (Nat.le_of_ble_eq_true rfl) hl.1 (fun H locs hP hD hS => ?_)
        refine lv_if_eq (tgt := 63) hx hb dX9_closestTo_38 (by decide) (fun c7 => ?_) (fun c7 => ?_)
        · replace hf := ipos c7 hf
          obtain ⟨v8, ev8⟩ : ∃ z : Int32, z = x5 + 1 := ⟨_, rfl⟩
          replace hf := bnd_at ev8 hf
          refine lv_iinc (v := v8) (lv' := [(5, .int v8), (0, .ref (a 12)), (1, .int x1), (2, .int x2), (3, .long x3)]) hx hb dX9_closestTo_63 hl (k := 4) rfl (by rw [ev8]; rfl) (by decide) rfl (fun ls hl => ?_)
          refine lv_goto (tgt := 10) hx hb dX9_closestTo_66 (by decide) ?_
          exact ih _ _ _ _ _ _ _ _ hf hP hD hS (lv_sub hl [1, 2, 3, 4, 0] rfl)
        · replace hf := ineg c7 hf
          refine lv_aload_n hx hb dX9_closestTo_41 rfl (lv_at hl 0 rfl) ?_
          refine lv_iload_n hx hb dX9_closestTo_42 rfl (lv_at hl 1 rfl) ?_
          refine lv_iload hx hb dX9_closestTo_43 (lv_at hl 4 rfl) ?_
          obtain ⟨r10, σ11, h9, hf⟩ := bnd2_some hf
          refine vL [] C hP hD hS (c_X9_heardAs h9) mv_X9_heardAs q_815 rv_X9 dX9_closestTo_45 ⟨Nat.le_of_ble_eq_true rfl, Nat.le_of_ble_eq_true rfl⟩ ⟨Nat.zero_le _, Nat.zero_le _⟩ rfl rfl (Nat.le_of_ble_eq_true rfl) hl.1 (fun H locs hP hD hS => ?_)
          refine lv_lstore (lv' := [(6, .long r10), (0, .ref (a 12)), (1, .int x1), (2, .int x2), (3, .long x3), (5, .int x5)]) hx hb dX9_closestTo_48 hl (by decide) rfl (fun ls hl => ?_)
          refine lv_lload hx hb dX9_closestTo_50 (lv_at hl 0 rfl) ?_
          refine lv_lload_n hx hb dX9_closestTo_52 rfl (lv_at hl 4 rfl) ?_
          refine lb_le (tgt := 63) hx hb dX9_closestTo_53 dX9_closestTo_54 (by decide) (fun c12 => ?_) (fun c12 => ?_)
          · replace hf := ipos c12 hf
            obtain ⟨v13, ev13⟩ : ∃ z : Int32, z = x5 + 1 := ⟨_, rfl⟩
            replace hf := bnd_at ev13 hf
            refine lv_iinc (v := v13) (lv' := [(5, .int v13), (6, .long r10), (0, .ref (a 12)), (1, .int x1), (2, .int x2), (3, .long x3)]) hx hb dX9_closestTo_63 hl (k := 5) rfl (by rw [ev13]; rfl) (by decide) rfl (fun ls hl => ?_)
            refine lv_goto (tgt := 10) hx hb dX9_closestTo_66 (by decide) ?_
            exact ih _ _ _ _ _ _ _ _ hf hP hD hS (lv_sub hl [2, 3, 4, 5, 0] rfl)
          · replace hf := ineg c12 hf
            refine lv_iload hx hb dX9_closestTo_57 (lv_at hl 5 rfl) ?_
            refine lv_istore_n (lv' := [(2, .int x5), (6, .long r10), (0, .ref (a 12)), (1, .int x1), (3, .long x3), (5, .int x5)]) hx hb dX9_closestTo_59 rfl hl (by decide) rfl (fun ls hl => ?_)
            refine lv_lload hx hb dX9_closestTo_60 (lv_at hl 1 rfl) ?_
            refine lv_lstore_n (lv' := [(3, .long r10), (2, .int x5), (6, .long r10), (0, .ref (a 12)), (1, .int x1), (5, .int x5)]) hx hb dX9_closestTo_62 rfl hl (by decide) rfl (fun ls hl => ?_)
            obtain ⟨v14, ev14⟩ : ∃ z : Int32, z = x5 + 1 := ⟨_, rfl⟩
            replace hf := bnd_at ev14 hf
            refine lv_iinc (v := v14) (lv' := [(5, .int v14), (3, .long r10), (2, .int x5), (6, .long r10), (0, .ref (a 12)), (1, .int x1)]) hx hb dX9_closestTo_63 hl (k := 5) rfl (by rw [ev14]; rfl) (by decide) rfl (fun ls hl => ?_)
            refine lv_goto (tgt := 10) hx hb dX9_closestTo_66 (by decide) ?_
            exact ih _ _ _ _ _ _ _ _ hf hP hD hS (lv_sub hl [4, 5, 2, 1, 0] rfl)
set_option maxHeartbeats 4000000 in
set_option maxRecDepth 100000 in
theorem c_X9_closestTo {l : Launch} {g : va_G} {ts : ClassId × ClassId × ClassId} {a : Nat → Nat} {σ : St} {p1 : Int32} {r : Int32} {σ' : St} (hf : f_X9_closestTo σ p1 = some (r, σ')) : ConI l g ts (WC ts a) yX9_closestTo cX9_closestTo 8 (some .int) (rk 5 131) σ [.ref (a 12), .int p1] r σ' := by
  refine ConI_mk .int rfl rfl rfl rfl (by decide) (Nat.le_of_ble_eq_true rfl) ?_
  intro p e s m below meth c A Q ls C hQ hP hD hS hl
  have C : FX p s m _ meth c RX9 cX9_closestTo 8 g ts A := C
  have hx := C.1
  have hb := C.2.1
  have hown := C.2.2.2.1
  have hts := C.2.2.2.2.1
  have hl : lv_has ls 8 [(0, .ref (a 12)), (1, .int p1)] := hl
  rw [f_X9_closestTo] at hf
  refine lv_bipush (v := -2) hx hb dX9_closestTo_0 (by decide) ?_
  refine lv_istore_n (lv' := [(2, .int (-2 : Int32)), (0, .ref (a 12)), (1, .int p1)]) hx hb dX9_closestTo_2 rfl hl (by decide) rfl (fun ls hl => ?_)
  refine lv_ldc2 hx hb hown (hts _ q_813) dX9_closestTo_3 ?_
  refine lv_lstore_n (lv' := [(3, .long (-1 : Int64)), (2, .int (-2 : Int32)), (0, .ref (a 12)), (1, .int p1)]) hx hb dX9_closestTo_6 rfl hl (by decide) rfl (fun ls hl => ?_)
  refine lv_iconst (v := 0) hx hb dX9_closestTo_7 (by decide) ?_
  refine lv_istore (lv' := [(5, .int (0 : Int32)), (3, .long (-1 : Int64)), (2, .int (-2 : Int32)), (0, .ref (a 12)), (1, .int p1)]) hx hb dX9_closestTo_8 hl (by decide) rfl (fun ls hl => ?_)
  exact w_X9_closestTo_b10 C hQ 256 _ _ _ _ _ _ _ _ hf hP hD hS (lv_sub hl [3, 4, 2, 1, 0] rfl)
theorem dX9_closestPair_0 : decode cX9_closestPair 0 = .ok (.bipush (-2), 2) := by decide +kernel
theorem dX9_closestPair_2 : decode cX9_closestPair 2 = .ok (.istore_n 1, 1) := by decide +kernel
theorem dX9_closestPair_3 : decode cX9_closestPair 3 = .ok (.ldc2_w 60, 3) := by decide +kernel
theorem dX9_closestPair_6 : decode cX9_closestPair 6 = .ok (.lstore_n 2, 1) := by decide +kernel
theorem dX9_closestPair_7 : decode cX9_closestPair 7 = .ok (.iconst 0, 1) := by decide +kernel
theorem dX9_closestPair_8 : decode cX9_closestPair 8 = .ok (.istore 4, 2) := by decide +kernel
theorem dX9_closestPair_10 : decode cX9_closestPair 10 = .ok (.iload 4, 2) := by decide +kernel
theorem dX9_closestPair_12 : decode cX9_closestPair 12 = .ok (.aload_n 0, 1) := by decide +kernel
theorem dX9_closestPair_13 : decode cX9_closestPair 13 = .ok (.getfield 18, 3) := by decide +kernel
theorem dX9_closestPair_16 : decode cX9_closestPair 16 = .ok (.getfield 62, 3) := by decide +kernel
theorem dX9_closestPair_19 : decode cX9_closestPair 19 = .ok (.if_icmp .ge 103, 3) := by decide +kernel
theorem dX9_closestPair_22 : decode cX9_closestPair 22 = .ok (.iload 4, 2) := by decide +kernel
theorem dX9_closestPair_24 : decode cX9_closestPair 24 = .ok (.iconst 1, 1) := by decide +kernel
theorem dX9_closestPair_25 : decode cX9_closestPair 25 = .ok (.iadd, 1) := by decide +kernel
theorem dX9_closestPair_26 : decode cX9_closestPair 26 = .ok (.istore 5, 2) := by decide +kernel
theorem dX9_closestPair_28 : decode cX9_closestPair 28 = .ok (.iload 5, 2) := by decide +kernel
theorem dX9_closestPair_30 : decode cX9_closestPair 30 = .ok (.aload_n 0, 1) := by decide +kernel
theorem dX9_closestPair_31 : decode cX9_closestPair 31 = .ok (.getfield 18, 3) := by decide +kernel
theorem dX9_closestPair_34 : decode cX9_closestPair 34 = .ok (.getfield 62, 3) := by decide +kernel
theorem dX9_closestPair_37 : decode cX9_closestPair 37 = .ok (.if_icmp .ge 79, 3) := by decide +kernel
theorem dX9_closestPair_40 : decode cX9_closestPair 40 = .ok (.aload_n 0, 1) := by decide +kernel
theorem dX9_closestPair_41 : decode cX9_closestPair 41 = .ok (.getfield 18, 3) := by decide +kernel
theorem dX9_closestPair_44 : decode cX9_closestPair 44 = .ok (.iload 4, 2) := by decide +kernel
theorem dX9_closestPair_46 : decode cX9_closestPair 46 = .ok (.iload 5, 2) := by decide +kernel
theorem dX9_closestPair_48 : decode cX9_closestPair 48 = .ok (.invokevirtual 66, 3) := by decide +kernel
theorem dX9_closestPair_51 : decode cX9_closestPair 51 = .ok (.ifCond .eq 59, 3) := by decide +kernel
theorem dX9_closestPair_54 : decode cX9_closestPair 54 = .ok (.aload_n 0, 1) := by decide +kernel
theorem dX9_closestPair_55 : decode cX9_closestPair 55 = .ok (.iload 4, 2) := by decide +kernel
theorem dX9_closestPair_57 : decode cX9_closestPair 57 = .ok (.iload 5, 2) := by decide +kernel
theorem dX9_closestPair_59 : decode cX9_closestPair 59 = .ok (.invokevirtual 70, 3) := by decide +kernel
theorem dX9_closestPair_62 : decode cX9_closestPair 62 = .ok (.aload_n 0, 1) := by decide +kernel
theorem dX9_closestPair_63 : decode cX9_closestPair 63 = .ok (.iload 5, 2) := by decide +kernel
theorem dX9_closestPair_65 : decode cX9_closestPair 65 = .ok (.iload 4, 2) := by decide +kernel
theorem dX9_closestPair_67 : decode cX9_closestPair 67 = .ok (.invokevirtual 70, 3) := by decide +kernel
theorem dX9_closestPair_70 : decode cX9_closestPair 70 = .ok (.ladd, 1) := by decide +kernel
theorem dX9_closestPair_71 : decode cX9_closestPair 71 = .ok (.getstatic 47, 3) := by decide +kernel
theorem dX9_closestPair_74 : decode cX9_closestPair 74 = .ok (.bipush 6, 2) := by decide +kernel
theorem dX9_closestPair_76 : decode cX9_closestPair 76 = .ok (.aload_n 0, 1) := by decide +kernel
theorem dX9_closestPair_77 : decode cX9_closestPair 77 = .ok (.getfield 18, 3) := by decide +kernel
theorem dX9_closestPair_80 : decode cX9_closestPair 80 = .ok (.getfield 26, 3) := by decide +kernel
theorem dX9_closestPair_83 : decode cX9_closestPair 83 = .ok (.iload 4, 2) := by decide +kernel
theorem dX9_closestPair_85 : decode cX9_closestPair 85 = .ok (.iaload, 1) := by decide +kernel
theorem dX9_closestPair_86 : decode cX9_closestPair 86 = .ok (.isub, 1) := by decide +kernel
theorem dX9_closestPair_87 : decode cX9_closestPair 87 = .ok (.laload, 1) := by decide +kernel
theorem dX9_closestPair_88 : decode cX9_closestPair 88 = .ok (.lmul, 1) := by decide +kernel
theorem dX9_closestPair_89 : decode cX9_closestPair 89 = .ok (.lstore 6, 2) := by decide +kernel
theorem dX9_closestPair_91 : decode cX9_closestPair 91 = .ok (.lload 6, 2) := by decide +kernel
theorem dX9_closestPair_93 : decode cX9_closestPair 93 = .ok (.lload_n 2, 1) := by decide +kernel
theorem dX9_closestPair_94 : decode cX9_closestPair 94 = .ok (.lcmp, 1) := by decide +kernel
theorem dX9_closestPair_95 : decode cX9_closestPair 95 = .ok (.ifCond .le 15, 3) := by decide +kernel
theorem dX9_closestPair_98 : decode cX9_closestPair 98 = .ok (.bipush 10, 2) := by decide +kernel
theorem dX9_closestPair_100 : decode cX9_closestPair 100 = .ok (.iload 4, 2) := by decide +kernel
theorem dX9_closestPair_102 : decode cX9_closestPair 102 = .ok (.imul, 1) := by decide +kernel
theorem dX9_closestPair_103 : decode cX9_closestPair 103 = .ok (.iload 5, 2) := by decide +kernel
theorem dX9_closestPair_105 : decode cX9_closestPair 105 = .ok (.iadd, 1) := by decide +kernel
theorem dX9_closestPair_106 : decode cX9_closestPair 106 = .ok (.istore_n 1, 1) := by decide +kernel
theorem dX9_closestPair_107 : decode cX9_closestPair 107 = .ok (.lload 6, 2) := by decide +kernel
theorem dX9_closestPair_109 : decode cX9_closestPair 109 = .ok (.lstore_n 2, 1) := by decide +kernel
theorem dX9_closestPair_110 : decode cX9_closestPair 110 = .ok (.iinc 5 1, 3) := by decide +kernel
theorem dX9_closestPair_113 : decode cX9_closestPair 113 = .ok (.goto (-85), 3) := by decide +kernel
theorem dX9_closestPair_116 : decode cX9_closestPair 116 = .ok (.iinc 4 1, 3) := by decide +kernel
theorem dX9_closestPair_119 : decode cX9_closestPair 119 = .ok (.goto (-109), 3) := by decide +kernel
theorem dX9_closestPair_122 : decode cX9_closestPair 122 = .ok (.iload_n 1, 1) := by decide +kernel
theorem dX9_closestPair_123 : decode cX9_closestPair 123 = .ok (.ireturn, 1) := by decide +kernel
def f_X9_closestPair_b28 (k10 : St → Int32 → Int64 → Int32 → Option (Int32 × St)) : Nat → St → Int32 → Int64 → Int32 → Int32 → Option (Int32 × St)
  | 0, _, _, _, _, _ => none
  | n + 1, σ, x1, x2, x4, x5 => if σ.1 303 0 ≤ x5 then (bnd (x4 + 1) (fun v4 => k10 σ x1 x2 v4)) else (bnd2 (f_X6_areEven σ x4 x5) (fun r6 σ7 => if r6 = 0 then (bnd (x5 + 1) (fun v9 => f_X9_closestPair_b28 k10 n σ7 x1 x2 x4 v9)) else (bnd2 (f_X9_heardAs σ7 x4 x5) (fun r11 σ12 => bnd2 (f_X9_heardAs σ12 x5 x4) (fun r14 σ15 => chk (x4 < 0 ∨ 10 ≤ x4.toNatClampNeg) (chk ((6 : Int32) - (σ15.2.2.1 301 0 x4.toNatClampNeg) < 0 ∨ 7 ≤ ((6 : Int32) - (σ15.2.2.1 301 0 x4.toNatClampNeg)).toNatClampNeg) (bnd ((r11 + r14) * (hundA ((6 : Int32) - (σ15.2.2.1 301 0 x4.toNatClampNeg)).toNatClampNeg)) (fun v19 => if v19 ≤ x2 then (bnd (x5 + 1) (fun v21 => f_X9_closestPair_b28 k10 n σ15 x1 x2 x4 v21)) else (bnd (((10 : Int32) * x4) + x5) (fun v22 => bnd (x5 + 1) (fun v23 => f_X9_closestPair_b28 k10 n σ15 v22 v19 x4 v23)))))))))))
def f_X9_closestPair_b10 : Nat → St → Int32 → Int64 → Int32 → Option (Int32 × St)
  | 0, _, _, _, _ => none
  | n + 1, σ, x1, x2, x4 => if σ.1 303 0 ≤ x4 then (some (x1, σ)) else (bnd (x4 + (1 : Int32)) (fun v2 => f_X9_closestPair_b28 (f_X9_closestPair_b10 n) 256 σ x1 x2 x4 v2))
def f_X9_closestPair (σ : St) : Option (Int32 × St) := f_X9_closestPair_b10 256 σ (-2 : Int32) (-1 : Int64) (0 : Int32)
set_option maxHeartbeats 4000000 in
set_option maxRecDepth 100000 in
theorem w_X9_closestPair_b28 {p : Program} {l : Launch} {e : Env} {s : State} {m : MethodId} {args : Array Value} {below : List Frame} {meth : Method} {c : Code} {g : va_G} {ts : ClassId × ClassId × ClassId} {A : Nat → Prop} {Q : State → Prop} {a : Nat → Nat} {r : Int32} {σ' : St} {k10 : St → Int32 → Int64 → Int32 → Option (Int32 × St)} (C : FX p s m args meth c RX9 cX9_closestPair 8 g ts A) (hQ : RetI p l e (rk 5 131) s m args below meth c cX9_closestPair g (WC ts a) A r σ' Q) (hk10 : ∀ (σ : St) (x1 : Int32) (x2 : Int64) (x4 : Int32) (H : Heap) (locs : List Loc) (ls : Array Slot), k10 σ x1 x2 x4 = some (r, σ') → va_P g classes (WC ts a σ) H → va_D A (WC ts a σ) → va_S A s.heap H locs → lv_has ls 8 [(0, .ref (a 12)), (1, .int x1), (2, .long x2), (4, .int x4)] → W p l e (rk 5 131) s m args below meth c H locs 0 0 Q (F0 m 10 ls [])) : ∀ (n : Nat) (σ : St) (x1 : Int32) (x2 : Int64) (x4 : Int32) (x5 : Int32) (H : Heap) (locs : List Loc) (ls : Array Slot), f_X9_closestPair_b28 k10 n σ x1 x2 x4 x5 = some (r, σ') → va_P g classes (WC ts a σ) H → va_D A (WC ts a σ) → va_S A s.heap H locs → lv_has ls 8 [(0, .ref (a 12)), (1, .int x1), (2, .long x2), (4, .int x4), (5, .int x5)] → W p l e (rk 5 131) s m args below meth c H locs 0 0 Q (F0 m 28 ls []) := by
  have hx := C.1
  have hb := C.2.1
  have hown := C.2.2.2.1
  have hts := C.2.2.2.2.1
  intro n
  induction n with
  | zero =>
    intro σ x1 x2 x4 x5 H locs ls hf
    cases hf
  | succ n ih =>
    intro σ x1 x2 x4 x5 H locs ls hf hP hD hS hl
    rw [f_X9_closestPair_b28] at hf
    refine lv_iload hx hb dX9_closestPair_28 (lv_at hl 4 rfl) ?_
    refine lv_aload_n hx hb dX9_closestPair_30 rfl (lv_at hl 0 rfl) ?_
    refine G_X9_names C hP q_183 dX9_closestPair_31 ?_
    refine G_X6_number C hP q_167 dX9_closestPair_34 ?_
    refine lv_icmp_ge (tgt := 116) hx hb dX9_closestPair_37 (by decide) (fun c3 => ?_) (fun c3 => ?_)
    · replace hf := ipos c3 hf
      obtain ⟨v4, ev4⟩ : ∃ z : Int32, z = x4 + 1 := ⟨_, rfl⟩
      replace hf := bnd_at ev4 hf
      refine lv_iinc (v := v4) (lv' := [(4, .int v4), (0, .ref (a 12)), (1, .int x1), (2, .long x2), (5, .int x5)]) hx hb dX9_closestPair_116 hl (k := 3) rfl (by rw [ev4]; rfl) (by decide) rfl (fun ls hl => ?_)
      refine lv_goto (tgt := 10) hx hb dX9_closestPair_119 (by decide) ?_
      exact hk10 _ _ _ _ _ _ _ hf hP hD hS (lv_sub hl [1, 2, 3, 0] rfl)
    · replace hf := ineg c3 hf
      refine lv_aload_n hx hb dX9_closestPair_40 rfl (lv_at hl 0 rfl) ?_
      refine G_X9_names C hP q_183 dX9_closestPair_41 ?_
      refine lv_iload hx hb dX9_closestPair_44 (lv_at hl 3 rfl) ?_
      refine lv_iload hx hb dX9_closestPair_46 (lv_at hl 4 rfl) ?_
      obtain ⟨r6, σ7, h5, hf⟩ := bnd2_some hf
      refine vI [] C hP hD hS (c_X6_areEven h5) mv_X6_areEven q_814 rv_X6 dX9_closestPair_48 ⟨Nat.le_of_ble_eq_true rfl, Nat.le_of_ble_eq_true rfl⟩ ⟨Nat.zero_le _, Nat.zero_le _⟩ rfl rfl (Nat.le_of_ble_eq_true rfl) hl.1 (fun H locs hP hD hS => ?_)
      refine lv_if_eq (tgt := 110) hx hb dX9_closestPair_51 (by decide) (fun c8 => ?_) (fun c8 => ?_)
      · replace hf := ipos c8 hf
        obtain ⟨v9, ev9⟩ : ∃ z : Int32, z = x5 + 1 := ⟨_, rfl⟩
        replace hf := bnd_at ev9 hf
        refine lv_iinc (v := v9) (lv' := [(5, .int v9), (0, .ref (a 12)), (1, .int x1), (2, .long x2), (4, .int x4)]) hx hb dX9_closestPair_110 hl (k := 4) rfl (by rw [ev9]; rfl) (by decide) rfl (fun ls hl => ?_)
        refine lv_goto (tgt := 28) hx hb dX9_closestPair_113 (by decide) ?_
        exact ih _ _ _ _ _ _ _ _ hf hP hD hS (lv_sub hl [1, 2, 3, 4, 0] rfl)
      · replace hf := ineg c8 hf
        refine lv_aload_n hx hb dX9_closestPair_54 rfl (lv_at hl 0 rfl) ?_
        refine lv_iload hx hb dX9_closestPair_55 (lv_at hl 3 rfl) ?_
        refine lv_iload hx hb dX9_closestPair_57 (lv_at hl 4 rfl) ?_
        obtain ⟨r11, σ12, h10, hf⟩ := bnd2_some hf
        refine vL [] C hP hD hS (c_X9_heardAs h10) mv_X9_heardAs q_815 rv_X9 dX9_closestPair_59 ⟨Nat.le_of_ble_eq_true rfl, Nat.le_of_ble_eq_true rfl⟩ ⟨Nat.zero_le _, Nat.zero_le _⟩ rfl rfl (Nat.le_of_ble_eq_true rfl) hl.1 (fun H locs hP hD hS => ?_)
        refine lv_aload_n hx hb dX9_closestPair_62 rfl (lv_at hl 0 rfl) ?_
        refine lv_iload hx hb dX9_closestPair_63 (lv_at hl 4 rfl) ?_
        refine lv_iload hx hb dX9_closestPair_65 (lv_at hl 3 rfl) ?_
        obtain ⟨r14, σ15, h13, hf⟩ := bnd2_some hf
        refine vL [.long r11] C hP hD hS (c_X9_heardAs h13) mv_X9_heardAs q_815 rv_X9 dX9_closestPair_67 ⟨Nat.le_of_ble_eq_true rfl, Nat.le_of_ble_eq_true rfl⟩ ⟨Nat.zero_le _, Nat.zero_le _⟩ rfl rfl (Nat.le_of_ble_eq_true rfl) hl.1 (fun H locs hP hD hS => ?_)
        refine lv_ladd hx hb dX9_closestPair_70 ?_
        obtain ⟨t16, hZt16, hTt16⟩ := C.2.2.2.2.2.2.2.2.1
        refine va_getsN hx hb hZt16 hS hown (va_Nw.use rfl (C.2.2.2.2.2.2.2.1 _ (by decide +kernel : Cond.fieldLinkNest RX9 47 "AsInBertha" "HUNDREDS" "[J" RX11 ∈ nestW))) (fun _ h => h) dX9_closestPair_71 ?_
        refine lv_bipush (v := 6) hx hb dX9_closestPair_74 (by decide) ?_
        refine lv_aload_n hx hb dX9_closestPair_76 rfl (lv_at hl 0 rfl) ?_
        refine G_X9_names C hP q_183 dX9_closestPair_77 ?_
        refine G_X6_sizes C hP q_157 dX9_closestPair_80 ?_
        refine lv_iload hx hb dX9_closestPair_83 (lv_at hl 3 rfl) ?_
        obtain ⟨h17, hf⟩ := chk_some hf
        refine AL_X6_sizes C hP h17 dX9_closestPair_85 ?_
        refine lv_isub hx hb dX9_closestPair_86 ?_
        obtain ⟨h18, hf⟩ := chk_some hf
        refine va_tl hx hb hTt16 hS h18 rfl dX9_closestPair_87 ?_
        refine lv_lmul hx hb dX9_closestPair_88 ?_
        refine lv_topl (fun v19 ev19 => ?_)
        replace hf := bnd_at ev19 hf
        refine lv_lstore (lv' := [(6, .long v19), (0, .ref (a 12)), (1, .int x1), (2, .long x2), (4, .int x4), (5, .int x5)]) hx hb dX9_closestPair_89 hl (by decide) rfl (fun ls hl => ?_)
        refine lv_lload hx hb dX9_closestPair_91 (lv_at hl 0 rfl) ?_
        refine lv_lload_n hx hb dX9_closestPair_93 rfl (lv_at hl 3 rfl) ?_
        refine lb_le (tgt := 110) hx hb dX9_closestPair_94 dX9_closestPair_95 (by decide) (fun c20 => ?_) (fun c20 => ?_)
        · replace hf := ipos c20 hf
          obtain ⟨v21, ev21⟩ : ∃ z : Int32, z = x5 + 1 := ⟨_, rfl⟩
          replace hf := bnd_at ev21 hf
          refine lv_iinc (v := v21) (lv' := [(5, .int v21), (6, .long v19), (0, .ref (a 12)), (1, .int x1), (2, .long x2), (4, .int x4)]) hx hb dX9_closestPair_110 hl (k := 5) rfl (by rw [ev21]; rfl) (by decide) rfl (fun ls hl => ?_)
          refine lv_goto (tgt := 28) hx hb dX9_closestPair_113 (by decide) ?_
          exact ih _ _ _ _ _ _ _ _ hf hP hD hS (lv_sub hl [2, 3, 4, 5, 0] rfl)
        · replace hf := ineg c20 hf
          refine lv_bipush (v := 10) hx hb dX9_closestPair_98 (by decide) ?_
          refine lv_iload hx hb dX9_closestPair_100 (lv_at hl 4 rfl) ?_
          refine lv_imul hx hb dX9_closestPair_102 ?_
          refine lv_iload hx hb dX9_closestPair_103 (lv_at hl 5 rfl) ?_
          refine lv_iadd hx hb dX9_closestPair_105 ?_
          refine lv_topi (fun v22 ev22 => ?_)
          replace hf := bnd_at ev22 hf
          refine lv_istore_n (lv' := [(1, .int v22), (6, .long v19), (0, .ref (a 12)), (2, .long x2), (4, .int x4), (5, .int x5)]) hx hb dX9_closestPair_106 rfl hl (by decide) rfl (fun ls hl => ?_)
          refine lv_lload hx hb dX9_closestPair_107 (lv_at hl 1 rfl) ?_
          refine lv_lstore_n (lv' := [(2, .long v19), (1, .int v22), (6, .long v19), (0, .ref (a 12)), (4, .int x4), (5, .int x5)]) hx hb dX9_closestPair_109 rfl hl (by decide) rfl (fun ls hl => ?_)
          obtain ⟨v23, ev23⟩ : ∃ z : Int32, z = x5 + 1 := ⟨_, rfl⟩
          replace hf := bnd_at ev23 hf
          refine lv_iinc (v := v23) (lv' := [(5, .int v23), (2, .long v19), (1, .int v22), (6, .long v19), (0, .ref (a 12)), (4, .int x4)]) hx hb dX9_closestPair_110 hl (k := 5) rfl (by rw [ev23]; rfl) (by decide) rfl (fun ls hl => ?_)
          refine lv_goto (tgt := 28) hx hb dX9_closestPair_113 (by decide) ?_
          exact ih _ _ _ _ _ _ _ _ hf hP hD hS (lv_sub hl [4, 2, 1, 5, 0] rfl)
set_option maxHeartbeats 4000000 in
set_option maxRecDepth 100000 in
theorem w_X9_closestPair_b10 {p : Program} {l : Launch} {e : Env} {s : State} {m : MethodId} {args : Array Value} {below : List Frame} {meth : Method} {c : Code} {g : va_G} {ts : ClassId × ClassId × ClassId} {A : Nat → Prop} {Q : State → Prop} {a : Nat → Nat} {r : Int32} {σ' : St} (C : FX p s m args meth c RX9 cX9_closestPair 8 g ts A) (hQ : RetI p l e (rk 5 131) s m args below meth c cX9_closestPair g (WC ts a) A r σ' Q) : ∀ (n : Nat) (σ : St) (x1 : Int32) (x2 : Int64) (x4 : Int32) (H : Heap) (locs : List Loc) (ls : Array Slot), f_X9_closestPair_b10 n σ x1 x2 x4 = some (r, σ') → va_P g classes (WC ts a σ) H → va_D A (WC ts a σ) → va_S A s.heap H locs → lv_has ls 8 [(0, .ref (a 12)), (1, .int x1), (2, .long x2), (4, .int x4)] → W p l e (rk 5 131) s m args below meth c H locs 0 0 Q (F0 m 10 ls []) := by
  have hx := C.1
  have hb := C.2.1
  have hown := C.2.2.2.1
  have hts := C.2.2.2.2.1
  intro n
  induction n with
  | zero =>
    intro σ x1 x2 x4 H locs ls hf
    cases hf
  | succ n ih =>
    intro σ x1 x2 x4 H locs ls hf hP hD hS hl
    rw [f_X9_closestPair_b10] at hf
    refine lv_iload hx hb dX9_closestPair_10 (lv_at hl 3 rfl) ?_
    refine lv_aload_n hx hb dX9_closestPair_12 rfl (lv_at hl 0 rfl) ?_
    refine G_X9_names C hP q_183 dX9_closestPair_13 ?_
    refine G_X6_number C hP q_167 dX9_closestPair_16 ?_
    refine lv_icmp_ge (tgt := 122) hx hb dX9_closestPair_19 (by decide) (fun c1 => ?_) (fun c1 => ?_)
    · replace hf := ipos c1 hf
      refine lv_iload_n hx hb dX9_closestPair_122 rfl (lv_at hl 1 rfl) ?_
      exact retI hQ hf dX9_closestPair_123 hP hD hS
    · replace hf := ineg c1 hf
      refine lv_iload hx hb dX9_closestPair_22 (lv_at hl 3 rfl) ?_
      refine lv_iconst (v := 1) hx hb dX9_closestPair_24 (by decide) ?_
      refine lv_iadd hx hb dX9_closestPair_25 ?_
      refine lv_topi (fun v2 ev2 => ?_)
      replace hf := bnd_at ev2 hf
      refine lv_istore (lv' := [(5, .int v2), (0, .ref (a 12)), (1, .int x1), (2, .long x2), (4, .int x4)]) hx hb dX9_closestPair_26 hl (by decide) rfl (fun ls hl => ?_)
      exact w_X9_closestPair_b28 C hQ ih 256 _ _ _ _ _ _ _ _ hf hP hD hS (lv_sub hl [1, 2, 3, 4, 0] rfl)
set_option maxHeartbeats 4000000 in
set_option maxRecDepth 100000 in
theorem c_X9_closestPair {l : Launch} {g : va_G} {ts : ClassId × ClassId × ClassId} {a : Nat → Nat} {σ : St} {r : Int32} {σ' : St} (hf : f_X9_closestPair σ = some (r, σ')) : ConI l g ts (WC ts a) yX9_closestPair cX9_closestPair 8 (some .int) (rk 5 131) σ [.ref (a 12)] r σ' := by
  refine ConI_mk .int rfl rfl rfl rfl (by decide) (Nat.le_of_ble_eq_true rfl) ?_
  intro p e s m below meth c A Q ls C hQ hP hD hS hl
  have C : FX p s m _ meth c RX9 cX9_closestPair 8 g ts A := C
  have hx := C.1
  have hb := C.2.1
  have hown := C.2.2.2.1
  have hts := C.2.2.2.2.1
  have hl : lv_has ls 8 [(0, .ref (a 12))] := hl
  rw [f_X9_closestPair] at hf
  refine lv_bipush (v := -2) hx hb dX9_closestPair_0 (by decide) ?_
  refine lv_istore_n (lv' := [(1, .int (-2 : Int32)), (0, .ref (a 12))]) hx hb dX9_closestPair_2 rfl hl (by decide) rfl (fun ls hl => ?_)
  refine lv_ldc2 hx hb hown (hts _ q_813) dX9_closestPair_3 ?_
  refine lv_lstore_n (lv' := [(2, .long (-1 : Int64)), (1, .int (-2 : Int32)), (0, .ref (a 12))]) hx hb dX9_closestPair_6 rfl hl (by decide) rfl (fun ls hl => ?_)
  refine lv_iconst (v := 0) hx hb dX9_closestPair_7 (by decide) ?_
  refine lv_istore (lv' := [(4, .int (0 : Int32)), (2, .long (-1 : Int64)), (1, .int (-2 : Int32)), (0, .ref (a 12))]) hx hb dX9_closestPair_8 hl (by decide) rfl (fun ls hl => ?_)
  exact w_X9_closestPair_b10 C hQ 256 _ _ _ _ _ _ _ hf hP hD hS (lv_sub hl [3, 2, 1, 0] rfl)
theorem dX9_stopsAt_0 : decode cX9_stopsAt 0 = .ok (.aload_n 0, 1) := by decide +kernel
theorem dX9_stopsAt_1 : decode cX9_stopsAt 1 = .ok (.getfield 18, 3) := by decide +kernel
theorem dX9_stopsAt_4 : decode cX9_stopsAt 4 = .ok (.getfield 26, 3) := by decide +kernel
theorem dX9_stopsAt_7 : decode cX9_stopsAt 7 = .ok (.iload_n 1, 1) := by decide +kernel
theorem dX9_stopsAt_8 : decode cX9_stopsAt 8 = .ok (.iaload, 1) := by decide +kernel
theorem dX9_stopsAt_9 : decode cX9_stopsAt 9 = .ok (.istore_n 3, 1) := by decide +kernel
theorem dX9_stopsAt_10 : decode cX9_stopsAt 10 = .ok (.iconst 0, 1) := by decide +kernel
theorem dX9_stopsAt_11 : decode cX9_stopsAt 11 = .ok (.istore 4, 2) := by decide +kernel
theorem dX9_stopsAt_13 : decode cX9_stopsAt 13 = .ok (.iload 4, 2) := by decide +kernel
theorem dX9_stopsAt_15 : decode cX9_stopsAt 15 = .ok (.iload_n 3, 1) := by decide +kernel
theorem dX9_stopsAt_16 : decode cX9_stopsAt 16 = .ok (.if_icmp .ge 72, 3) := by decide +kernel
theorem dX9_stopsAt_19 : decode cX9_stopsAt 19 = .ok (.aload_n 0, 1) := by decide +kernel
theorem dX9_stopsAt_20 : decode cX9_stopsAt 20 = .ok (.getfield 18, 3) := by decide +kernel
theorem dX9_stopsAt_23 : decode cX9_stopsAt 23 = .ok (.iload_n 1, 1) := by decide +kernel
theorem dX9_stopsAt_24 : decode cX9_stopsAt 24 = .ok (.iload 4, 2) := by decide +kernel
theorem dX9_stopsAt_26 : decode cX9_stopsAt 26 = .ok (.invokevirtual 31, 3) := by decide +kernel
theorem dX9_stopsAt_29 : decode cX9_stopsAt 29 = .ok (.istore 5, 2) := by decide +kernel
theorem dX9_stopsAt_31 : decode cX9_stopsAt 31 = .ok (.bipush 100, 2) := by decide +kernel
theorem dX9_stopsAt_33 : decode cX9_stopsAt 33 = .ok (.aload_n 0, 1) := by decide +kernel
theorem dX9_stopsAt_34 : decode cX9_stopsAt 34 = .ok (.getfield 22, 3) := by decide +kernel
theorem dX9_stopsAt_37 : decode cX9_stopsAt 37 = .ok (.getfield 44, 3) := by decide +kernel
theorem dX9_stopsAt_40 : decode cX9_stopsAt 40 = .ok (.iload 5, 2) := by decide +kernel
theorem dX9_stopsAt_42 : decode cX9_stopsAt 42 = .ok (.iaload, 1) := by decide +kernel
theorem dX9_stopsAt_43 : decode cX9_stopsAt 43 = .ok (.iconst 1, 1) := by decide +kernel
theorem dX9_stopsAt_44 : decode cX9_stopsAt 44 = .ok (.isub, 1) := by decide +kernel
theorem dX9_stopsAt_45 : decode cX9_stopsAt 45 = .ok (.imul, 1) := by decide +kernel
theorem dX9_stopsAt_46 : decode cX9_stopsAt 46 = .ok (.istore 6, 2) := by decide +kernel
theorem dX9_stopsAt_48 : decode cX9_stopsAt 48 = .ok (.bipush 100, 2) := by decide +kernel
theorem dX9_stopsAt_50 : decode cX9_stopsAt 50 = .ok (.aload_n 0, 1) := by decide +kernel
theorem dX9_stopsAt_51 : decode cX9_stopsAt 51 = .ok (.getfield 22, 3) := by decide +kernel
theorem dX9_stopsAt_54 : decode cX9_stopsAt 54 = .ok (.iload 5, 2) := by decide +kernel
theorem dX9_stopsAt_56 : decode cX9_stopsAt 56 = .ok (.iload 5, 2) := by decide +kernel
theorem dX9_stopsAt_58 : decode cX9_stopsAt 58 = .ok (.iconst 0, 1) := by decide +kernel
theorem dX9_stopsAt_59 : decode cX9_stopsAt 59 = .ok (.invokevirtual 40, 3) := by decide +kernel
theorem dX9_stopsAt_62 : decode cX9_stopsAt 62 = .ok (.isub, 1) := by decide +kernel
theorem dX9_stopsAt_63 : decode cX9_stopsAt 63 = .ok (.iload_n 3, 1) := by decide +kernel
theorem dX9_stopsAt_64 : decode cX9_stopsAt 64 = .ok (.iload 4, 2) := by decide +kernel
theorem dX9_stopsAt_66 : decode cX9_stopsAt 66 = .ok (.isub, 1) := by decide +kernel
theorem dX9_stopsAt_67 : decode cX9_stopsAt 67 = .ok (.iload_n 2, 1) := by decide +kernel
theorem dX9_stopsAt_68 : decode cX9_stopsAt 68 = .ok (.iadd, 1) := by decide +kernel
theorem dX9_stopsAt_69 : decode cX9_stopsAt 69 = .ok (.imul, 1) := by decide +kernel
theorem dX9_stopsAt_70 : decode cX9_stopsAt 70 = .ok (.istore 7, 2) := by decide +kernel
theorem dX9_stopsAt_72 : decode cX9_stopsAt 72 = .ok (.iload 6, 2) := by decide +kernel
theorem dX9_stopsAt_74 : decode cX9_stopsAt 74 = .ok (.iload 7, 2) := by decide +kernel
theorem dX9_stopsAt_76 : decode cX9_stopsAt 76 = .ok (.if_icmp .ge 6, 3) := by decide +kernel
theorem dX9_stopsAt_79 : decode cX9_stopsAt 79 = .ok (.iload 4, 2) := by decide +kernel
theorem dX9_stopsAt_81 : decode cX9_stopsAt 81 = .ok (.ireturn, 1) := by decide +kernel
theorem dX9_stopsAt_82 : decode cX9_stopsAt 82 = .ok (.iinc 4 1, 3) := by decide +kernel
theorem dX9_stopsAt_85 : decode cX9_stopsAt 85 = .ok (.goto (-72), 3) := by decide +kernel
theorem dX9_stopsAt_88 : decode cX9_stopsAt 88 = .ok (.bipush (-2), 2) := by decide +kernel
theorem dX9_stopsAt_90 : decode cX9_stopsAt 90 = .ok (.ireturn, 1) := by decide +kernel
def f_X9_stopsAt_b13 : Nat → St → Int32 → Int32 → Int32 → Int32 → Option (Int32 × St)
  | 0, _, _, _, _, _ => none
  | n + 1, σ, x1, x2, x3, x4 => if x3 ≤ x4 then (some ((-2 : Int32), σ)) else (bnd2 (f_X6_at σ x1 x4) (fun r5 σ6 => chk (r5 < 0 ∨ 12 ≤ r5.toNatClampNeg) (bnd ((100 : Int32) * ((σ6.2.2.1 251 0 r5.toNatClampNeg) - (1 : Int32))) (fun v8 => bnd2 (f_X5_parts σ6 r5 r5 (0 : Int32)) (fun r10 σ11 => bnd (((100 : Int32) - r10) * ((x3 - x4) + x2)) (fun v12 => if v12 ≤ v8 then (bnd (x4 + 1) (fun v14 => f_X9_stopsAt_b13 n σ11 x1 x2 x3 v14)) else (some (x4, σ11))))))))
def f_X9_stopsAt (σ : St) (p1 : Int32) (p2 : Int32) : Option (Int32 × St) := chk (p1 < 0 ∨ 10 ≤ p1.toNatClampNeg) (bnd (σ.2.2.1 301 0 p1.toNatClampNeg) (fun v2 => f_X9_stopsAt_b13 256 σ p1 p2 v2 (0 : Int32)))
set_option maxHeartbeats 4000000 in
set_option maxRecDepth 100000 in
theorem w_X9_stopsAt_b13 {p : Program} {l : Launch} {e : Env} {s : State} {m : MethodId} {args : Array Value} {below : List Frame} {meth : Method} {c : Code} {g : va_G} {ts : ClassId × ClassId × ClassId} {A : Nat → Prop} {Q : State → Prop} {a : Nat → Nat} {r : Int32} {σ' : St} (C : FX p s m args meth c RX9 cX9_stopsAt 8 g ts A) (hQ : RetI p l e (rk 4 106) s m args below meth c cX9_stopsAt g (WC ts a) A r σ' Q) : ∀ (n : Nat) (σ : St) (x1 : Int32) (x2 : Int32) (x3 : Int32) (x4 : Int32) (H : Heap) (locs : List Loc) (ls : Array Slot), f_X9_stopsAt_b13 n σ x1 x2 x3 x4 = some (r, σ') → va_P g classes (WC ts a σ) H → va_D A (WC ts a σ) → va_S A s.heap H locs → lv_has ls 8 [(0, .ref (a 12)), (1, .int x1), (2, .int x2), (3, .int x3), (4, .int x4)] → W p l e (rk 4 106) s m args below meth c H locs 0 0 Q (F0 m 13 ls []) := by
  have hx := C.1
  have hb := C.2.1
  have hown := C.2.2.2.1
  have hts := C.2.2.2.2.1
  intro n
  induction n with
  | zero =>
    intro σ x1 x2 x3 x4 H locs ls hf
    cases hf
  | succ n ih =>
    intro σ x1 x2 x3 x4 H locs ls hf hP hD hS hl
    rw [f_X9_stopsAt_b13] at hf
    refine lv_iload hx hb dX9_stopsAt_13 (lv_at hl 4 rfl) ?_
    refine lv_iload_n hx hb dX9_stopsAt_15 rfl (lv_at hl 3 rfl) ?_
    refine lv_icmp_ge (tgt := 88) hx hb dX9_stopsAt_16 (by decide) (fun c3 => ?_) (fun c3 => ?_)
    · replace hf := ipos c3 hf
      refine lv_bipush (v := -2) hx hb dX9_stopsAt_88 (by decide) ?_
      exact retI hQ hf dX9_stopsAt_90 hP hD hS
    · replace hf := ineg c3 hf
      refine lv_aload_n hx hb dX9_stopsAt_19 rfl (lv_at hl 0 rfl) ?_
      refine G_X9_names C hP q_183 dX9_stopsAt_20 ?_
      refine lv_iload_n hx hb dX9_stopsAt_23 rfl (lv_at hl 1 rfl) ?_
      refine lv_iload hx hb dX9_stopsAt_24 (lv_at hl 4 rfl) ?_
      obtain ⟨r5, σ6, h4, hf⟩ := bnd2_some hf
      refine vI [] C hP hD hS (c_X6_at h4) mv_X6_at q_757 rv_X6 dX9_stopsAt_26 ⟨Nat.le_of_ble_eq_true rfl, Nat.le_of_ble_eq_true rfl⟩ ⟨Nat.zero_le _, Nat.zero_le _⟩ rfl rfl (Nat.le_of_ble_eq_true rfl) hl.1 (fun H locs hP hD hS => ?_)
      refine lv_istore (lv' := [(5, .int r5), (0, .ref (a 12)), (1, .int x1), (2, .int x2), (3, .int x3), (4, .int x4)]) hx hb dX9_stopsAt_29 hl (by decide) rfl (fun ls hl => ?_)
      refine lv_bipush (v := 100) hx hb dX9_stopsAt_31 (by decide) ?_
      refine lv_aload_n hx hb dX9_stopsAt_33 rfl (lv_at hl 1 rfl) ?_
      refine G_X9_line C hP q_184 dX9_stopsAt_34 ?_
      refine G_X5_longs C hP q_119 dX9_stopsAt_37 ?_
      refine lv_iload hx hb dX9_stopsAt_40 (lv_at hl 0 rfl) ?_
      obtain ⟨h7, hf⟩ := chk_some hf
      refine AL_X5_longs C hP h7 dX9_stopsAt_42 ?_
      refine lv_iconst (v := 1) hx hb dX9_stopsAt_43 (by decide) ?_
      refine lv_isub hx hb dX9_stopsAt_44 ?_
      refine lv_imul hx hb dX9_stopsAt_45 ?_
      refine lv_topi (fun v8 ev8 => ?_)
      replace hf := bnd_at ev8 hf
      refine lv_istore (lv' := [(6, .int v8), (5, .int r5), (0, .ref (a 12)), (1, .int x1), (2, .int x2), (3, .int x3), (4, .int x4)]) hx hb dX9_stopsAt_46 hl (by decide) rfl (fun ls hl => ?_)
      refine lv_bipush (v := 100) hx hb dX9_stopsAt_48 (by decide) ?_
      refine lv_aload_n hx hb dX9_stopsAt_50 rfl (lv_at hl 2 rfl) ?_
      refine G_X9_line C hP q_184 dX9_stopsAt_51 ?_
      refine lv_iload hx hb dX9_stopsAt_54 (lv_at hl 1 rfl) ?_
      refine lv_iload hx hb dX9_stopsAt_56 (lv_at hl 1 rfl) ?_
      refine lv_iconst (v := 0) hx hb dX9_stopsAt_58 (by decide) ?_
      obtain ⟨r10, σ11, h9, hf⟩ := bnd2_some hf
      refine vI [.int (100 : Int32)] C hP hD hS (c_X5_parts h9) mv_X5_parts q_758 rv_X5 dX9_stopsAt_59 ⟨Nat.le_of_ble_eq_true rfl, Nat.le_of_ble_eq_true rfl⟩ ⟨Nat.zero_le _, Nat.zero_le _⟩ rfl rfl (Nat.le_of_ble_eq_true rfl) hl.1 (fun H locs hP hD hS => ?_)
      refine lv_isub hx hb dX9_stopsAt_62 ?_
      refine lv_iload_n hx hb dX9_stopsAt_63 rfl (lv_at hl 5 rfl) ?_
      refine lv_iload hx hb dX9_stopsAt_64 (lv_at hl 6 rfl) ?_
      refine lv_isub hx hb dX9_stopsAt_66 ?_
      refine lv_iload_n hx hb dX9_stopsAt_67 rfl (lv_at hl 4 rfl) ?_
      refine lv_iadd hx hb dX9_stopsAt_68 ?_
      refine lv_imul hx hb dX9_stopsAt_69 ?_
      refine lv_topi (fun v12 ev12 => ?_)
      replace hf := bnd_at ev12 hf
      refine lv_istore (lv' := [(7, .int v12), (6, .int v8), (5, .int r5), (0, .ref (a 12)), (1, .int x1), (2, .int x2), (3, .int x3), (4, .int x4)]) hx hb dX9_stopsAt_70 hl (by decide) rfl (fun ls hl => ?_)
      refine lv_iload hx hb dX9_stopsAt_72 (lv_at hl 1 rfl) ?_
      refine lv_iload hx hb dX9_stopsAt_74 (lv_at hl 0 rfl) ?_
      refine lv_icmp_ge (tgt := 82) hx hb dX9_stopsAt_76 (by decide) (fun c13 => ?_) (fun c13 => ?_)
      · replace hf := ipos c13 hf
        obtain ⟨v14, ev14⟩ : ∃ z : Int32, z = x4 + 1 := ⟨_, rfl⟩
        replace hf := bnd_at ev14 hf
        refine lv_iinc (v := v14) (lv' := [(4, .int v14), (7, .int v12), (6, .int v8), (5, .int r5), (0, .ref (a 12)), (1, .int x1), (2, .int x2), (3, .int x3)]) hx hb dX9_stopsAt_82 hl (k := 7) rfl (by rw [ev14]; rfl) (by decide) rfl (fun ls hl => ?_)
        refine lv_goto (tgt := 13) hx hb dX9_stopsAt_85 (by decide) ?_
        exact ih _ _ _ _ _ _ _ _ hf hP hD hS (lv_sub hl [4, 5, 6, 7, 0] rfl)
      · replace hf := ineg c13 hf
        refine lv_iload hx hb dX9_stopsAt_79 (lv_at hl 7 rfl) ?_
        exact retI hQ hf dX9_stopsAt_81 hP hD hS
set_option maxHeartbeats 4000000 in
set_option maxRecDepth 100000 in
theorem c_X9_stopsAt {l : Launch} {g : va_G} {ts : ClassId × ClassId × ClassId} {a : Nat → Nat} {σ : St} {p1 : Int32} {p2 : Int32} {r : Int32} {σ' : St} (hf : f_X9_stopsAt σ p1 p2 = some (r, σ')) : ConI l g ts (WC ts a) yX9_stopsAt cX9_stopsAt 8 (some .int) (rk 4 106) σ [.ref (a 12), .int p1, .int p2] r σ' := by
  refine ConI_mk .int rfl rfl rfl rfl (by decide) (Nat.le_of_ble_eq_true rfl) ?_
  intro p e s m below meth c A Q ls C hQ hP hD hS hl
  have C : FX p s m _ meth c RX9 cX9_stopsAt 8 g ts A := C
  have hx := C.1
  have hb := C.2.1
  have hown := C.2.2.2.1
  have hts := C.2.2.2.2.1
  have hl : lv_has ls 8 [(0, .ref (a 12)), (1, .int p1), (2, .int p2)] := hl
  rw [f_X9_stopsAt] at hf
  refine lv_aload_n hx hb dX9_stopsAt_0 rfl (lv_at hl 0 rfl) ?_
  refine G_X9_names C hP q_183 dX9_stopsAt_1 ?_
  refine G_X6_sizes C hP q_157 dX9_stopsAt_4 ?_
  refine lv_iload_n hx hb dX9_stopsAt_7 rfl (lv_at hl 1 rfl) ?_
  obtain ⟨h1, hf⟩ := chk_some hf
  refine AL_X6_sizes C hP h1 dX9_stopsAt_8 ?_
  refine lv_topi (fun v2 ev2 => ?_)
  replace hf := bnd_at ev2 hf
  refine lv_istore_n (lv' := [(3, .int v2), (0, .ref (a 12)), (1, .int p1), (2, .int p2)]) hx hb dX9_stopsAt_9 rfl hl (by decide) rfl (fun ls hl => ?_)
  refine lv_iconst (v := 0) hx hb dX9_stopsAt_10 (by decide) ?_
  refine lv_istore (lv' := [(4, .int (0 : Int32)), (3, .int v2), (0, .ref (a 12)), (1, .int p1), (2, .int p2)]) hx hb dX9_stopsAt_11 hl (by decide) rfl (fun ls hl => ?_)
  exact w_X9_stopsAt_b13 C hQ 256 _ _ _ _ _ _ _ _ hf hP hD hS (lv_sub hl [2, 3, 4, 1, 0] rfl)
theorem dX9_draws_0 : decode cX9_draws 0 = .ok (.iload_n 3, 1) := by decide +kernel
theorem dX9_draws_1 : decode cX9_draws 1 = .ok (.istore 5, 2) := by decide +kernel
theorem dX9_draws_3 : decode cX9_draws 3 = .ok (.iconst 0, 1) := by decide +kernel
theorem dX9_draws_4 : decode cX9_draws 4 = .ok (.istore 6, 2) := by decide +kernel
theorem dX9_draws_6 : decode cX9_draws 6 = .ok (.iconst 0, 1) := by decide +kernel
theorem dX9_draws_7 : decode cX9_draws 7 = .ok (.istore 7, 2) := by decide +kernel
theorem dX9_draws_9 : decode cX9_draws 9 = .ok (.iconst 0, 1) := by decide +kernel
theorem dX9_draws_10 : decode cX9_draws 10 = .ok (.istore 8, 2) := by decide +kernel
theorem dX9_draws_12 : decode cX9_draws 12 = .ok (.iload 8, 2) := by decide +kernel
theorem dX9_draws_14 : decode cX9_draws 14 = .ok (.iload_n 2, 1) := by decide +kernel
theorem dX9_draws_15 : decode cX9_draws 15 = .ok (.if_icmp .ge 98, 3) := by decide +kernel
theorem dX9_draws_18 : decode cX9_draws 18 = .ok (.iload 7, 2) := by decide +kernel
theorem dX9_draws_20 : decode cX9_draws 20 = .ok (.istore 9, 2) := by decide +kernel
theorem dX9_draws_22 : decode cX9_draws 22 = .ok (.iconst 0, 1) := by decide +kernel
theorem dX9_draws_23 : decode cX9_draws 23 = .ok (.istore 10, 2) := by decide +kernel
theorem dX9_draws_25 : decode cX9_draws 25 = .ok (.iload 10, 2) := by decide +kernel
theorem dX9_draws_27 : decode cX9_draws 27 = .ok (.aload_n 0, 1) := by decide +kernel
theorem dX9_draws_28 : decode cX9_draws 28 = .ok (.getfield 18, 3) := by decide +kernel
theorem dX9_draws_31 : decode cX9_draws 31 = .ok (.getfield 26, 3) := by decide +kernel
theorem dX9_draws_34 : decode cX9_draws 34 = .ok (.iload_n 1, 1) := by decide +kernel
theorem dX9_draws_35 : decode cX9_draws 35 = .ok (.iaload, 1) := by decide +kernel
theorem dX9_draws_36 : decode cX9_draws 36 = .ok (.if_icmp .ge 61, 3) := by decide +kernel
theorem dX9_draws_39 : decode cX9_draws 39 = .ok (.aload_n 0, 1) := by decide +kernel
theorem dX9_draws_40 : decode cX9_draws 40 = .ok (.getfield 18, 3) := by decide +kernel
theorem dX9_draws_43 : decode cX9_draws 43 = .ok (.iload_n 1, 1) := by decide +kernel
theorem dX9_draws_44 : decode cX9_draws 44 = .ok (.iload 10, 2) := by decide +kernel
theorem dX9_draws_46 : decode cX9_draws 46 = .ok (.invokevirtual 31, 3) := by decide +kernel
theorem dX9_draws_49 : decode cX9_draws 49 = .ok (.istore 11, 2) := by decide +kernel
theorem dX9_draws_51 : decode cX9_draws 51 = .ok (.aload_n 0, 1) := by decide +kernel
theorem dX9_draws_52 : decode cX9_draws 52 = .ok (.getfield 22, 3) := by decide +kernel
theorem dX9_draws_55 : decode cX9_draws 55 = .ok (.iload 11, 2) := by decide +kernel
theorem dX9_draws_57 : decode cX9_draws 57 = .ok (.iconst 0, 1) := by decide +kernel
theorem dX9_draws_58 : decode cX9_draws 58 = .ok (.invokevirtual 73, 3) := by decide +kernel
theorem dX9_draws_61 : decode cX9_draws 61 = .ok (.ifCond .le 10, 3) := by decide +kernel
theorem dX9_draws_64 : decode cX9_draws 64 = .ok (.iload 5, 2) := by decide +kernel
theorem dX9_draws_66 : decode cX9_draws 66 = .ok (.invokestatic 76, 3) := by decide +kernel
theorem dX9_draws_69 : decode cX9_draws 69 = .ok (.istore 5, 2) := by decide +kernel
theorem dX9_draws_71 : decode cX9_draws 71 = .ok (.aload_n 0, 1) := by decide +kernel
theorem dX9_draws_72 : decode cX9_draws 72 = .ok (.getfield 22, 3) := by decide +kernel
theorem dX9_draws_75 : decode cX9_draws 75 = .ok (.iload 5, 2) := by decide +kernel
theorem dX9_draws_77 : decode cX9_draws 77 = .ok (.iload 11, 2) := by decide +kernel
theorem dX9_draws_79 : decode cX9_draws 79 = .ok (.iconst 0, 1) := by decide +kernel
theorem dX9_draws_80 : decode cX9_draws 80 = .ok (.invokevirtual 80, 3) := by decide +kernel
theorem dX9_draws_83 : decode cX9_draws 83 = .ok (.iload 11, 2) := by decide +kernel
theorem dX9_draws_85 : decode cX9_draws 85 = .ok (.if_icmp .eq 6, 3) := by decide +kernel
theorem dX9_draws_88 : decode cX9_draws 88 = .ok (.iinc 7 1, 3) := by decide +kernel
theorem dX9_draws_91 : decode cX9_draws 91 = .ok (.iinc 10 1, 3) := by decide +kernel
theorem dX9_draws_94 : decode cX9_draws 94 = .ok (.goto (-69), 3) := by decide +kernel
theorem dX9_draws_97 : decode cX9_draws 97 = .ok (.iload 7, 2) := by decide +kernel
theorem dX9_draws_99 : decode cX9_draws 99 = .ok (.iload 9, 2) := by decide +kernel
theorem dX9_draws_101 : decode cX9_draws 101 = .ok (.if_icmp .ne 6, 3) := by decide +kernel
theorem dX9_draws_104 : decode cX9_draws 104 = .ok (.iinc 6 1, 3) := by decide +kernel
theorem dX9_draws_107 : decode cX9_draws 107 = .ok (.iinc 8 1, 3) := by decide +kernel
theorem dX9_draws_110 : decode cX9_draws 110 = .ok (.goto (-98), 3) := by decide +kernel
theorem dX9_draws_113 : decode cX9_draws 113 = .ok (.iload 4, 2) := by decide +kernel
theorem dX9_draws_115 : decode cX9_draws 115 = .ok (.ifCond .eq 8, 3) := by decide +kernel
theorem dX9_draws_118 : decode cX9_draws 118 = .ok (.iload 7, 2) := by decide +kernel
theorem dX9_draws_120 : decode cX9_draws 120 = .ok (.goto 5, 3) := by decide +kernel
theorem dX9_draws_123 : decode cX9_draws 123 = .ok (.iload 6, 2) := by decide +kernel
theorem dX9_draws_125 : decode cX9_draws 125 = .ok (.ireturn, 1) := by decide +kernel
def f_X9_draws_b71 (k12 : St → Int32 → Int32 → Int32 → Int32 → Int32 → Int32 → Int32 → Option (Int32 × St)) (k25 : St → Int32 → Int32 → Int32 → Int32 → Int32 → Int32 → Int32 → Int32 → Int32 → Option (Int32 × St)) (σ : St) (x1 : Int32) (x2 : Int32) (x4 : Int32) (x5 : Int32) (x6 : Int32) (x7 : Int32) (x8 : Int32) (x9 : Int32) (x10 : Int32) (x11 : Int32) : Option (Int32 × St) := bnd2 (f_X5_heardBy σ x5 x11 (0 : Int32)) (fun r19 σ20 => if r19 = x11 then (bnd (x10 + 1) (fun v22 => k25 σ20 x1 x2 x4 x5 x6 x7 x8 x9 v22)) else (bnd (x7 + 1) (fun v23 => bnd (x10 + 1) (fun v24 => k25 σ20 x1 x2 x4 x5 x6 v23 x8 x9 v24))))
def f_X9_draws_b25 (k12 : St → Int32 → Int32 → Int32 → Int32 → Int32 → Int32 → Int32 → Option (Int32 × St)) : Nat → St → Int32 → Int32 → Int32 → Int32 → Int32 → Int32 → Int32 → Int32 → Int32 → Option (Int32 × St)
  | 0, _, _, _, _, _, _, _, _, _, _ => none
  | n + 1, σ, x1, x2, x4, x5, x6, x7, x8, x9, x10 => chk (x1 < 0 ∨ 10 ≤ x1.toNatClampNeg) (if σ.2.2.1 301 0 x1.toNatClampNeg ≤ x10 then (if x7 = x9 then (bnd (x6 + 1) (fun v7 => bnd (x8 + 1) (fun v8 => k12 σ x1 x2 x4 x5 v7 x7 v8))) else (bnd (x8 + 1) (fun v6 => k12 σ x1 x2 x4 x5 x6 x7 v6))) else (bnd2 (f_X6_at σ x1 x10) (fun r10 σ11 => bnd2 (f_X5_total σ11 r10 (0 : Int32)) (fun r13 σ14 => if r13 ≤ 0 then (f_X9_draws_b71 k12 (f_X9_draws_b25 k12 n) σ14 x1 x2 x4 x5 x6 x7 x8 x9 x10 r10) else (bnd1 (f_X11_nextDraw x5) (fun r17 => f_X9_draws_b71 k12 (f_X9_draws_b25 k12 n) σ14 x1 x2 x4 r17 x6 x7 x8 x9 x10 r10))))))
def f_X9_draws_b12 : Nat → St → Int32 → Int32 → Int32 → Int32 → Int32 → Int32 → Int32 → Option (Int32 × St)
  | 0, _, _, _, _, _, _, _, _ => none
  | n + 1, σ, x1, x2, x4, x5, x6, x7, x8 => if x2 ≤ x8 then (if x4 = 0 then (some (x6, σ)) else (some (x7, σ))) else (f_X9_draws_b25 (f_X9_draws_b12 n) 256 σ x1 x2 x4 x5 x6 x7 x8 x7 (0 : Int32))
def f_X9_draws (σ : St) (p1 : Int32) (p2 : Int32) (p3 : Int32) (p4 : Int32) : Option (Int32 × St) := f_X9_draws_b12 256 σ p1 p2 p4 p3 (0 : Int32) (0 : Int32) (0 : Int32)
set_option maxHeartbeats 4000000 in
set_option maxRecDepth 100000 in
theorem w_X9_draws_b71 {p : Program} {l : Launch} {e : Env} {s : State} {m : MethodId} {args : Array Value} {below : List Frame} {meth : Method} {c : Code} {g : va_G} {ts : ClassId × ClassId × ClassId} {A : Nat → Prop} {Q : State → Prop} {a : Nat → Nat} {r : Int32} {σ' : St} {k12 : St → Int32 → Int32 → Int32 → Int32 → Int32 → Int32 → Int32 → Option (Int32 × St)} {k25 : St → Int32 → Int32 → Int32 → Int32 → Int32 → Int32 → Int32 → Int32 → Int32 → Option (Int32 × St)} (C : FX p s m args meth c RX9 cX9_draws 12 g ts A) (hQ : RetI p l e (rk 5 131) s m args below meth c cX9_draws g (WC ts a) A r σ' Q) (hk12 : ∀ (σ : St) (x1 : Int32) (x2 : Int32) (x4 : Int32) (x5 : Int32) (x6 : Int32) (x7 : Int32) (x8 : Int32) (H : Heap) (locs : List Loc) (ls : Array Slot), k12 σ x1 x2 x4 x5 x6 x7 x8 = some (r, σ') → va_P g classes (WC ts a σ) H → va_D A (WC ts a σ) → va_S A s.heap H locs → lv_has ls 12 [(0, .ref (a 12)), (1, .int x1), (2, .int x2), (4, .int x4), (5, .int x5), (6, .int x6), (7, .int x7), (8, .int x8)] → W p l e (rk 5 131) s m args below meth c H locs 0 0 Q (F0 m 12 ls [])) (hk25 : ∀ (σ : St) (x1 : Int32) (x2 : Int32) (x4 : Int32) (x5 : Int32) (x6 : Int32) (x7 : Int32) (x8 : Int32) (x9 : Int32) (x10 : Int32) (H : Heap) (locs : List Loc) (ls : Array Slot), k25 σ x1 x2 x4 x5 x6 x7 x8 x9 x10 = some (r, σ') → va_P g classes (WC ts a σ) H → va_D A (WC ts a σ) → va_S A s.heap H locs → lv_has ls 12 [(0, .ref (a 12)), (1, .int x1), (2, .int x2), (4, .int x4), (5, .int x5), (6, .int x6), (7, .int x7), (8, .int x8), (9, .int x9), (10, .int x10)] → W p l e (rk 5 131) s m args below meth c H locs 0 0 Q (F0 m 25 ls [])) : ∀ (σ : St) (x1 : Int32) (x2 : Int32) (x4 : Int32) (x5 : Int32) (x6 : Int32) (x7 : Int32) (x8 : Int32) (x9 : Int32) (x10 : Int32) (x11 : Int32) (H : Heap) (locs : List Loc) (ls : Array Slot), f_X9_draws_b71 k12 k25 σ x1 x2 x4 x5 x6 x7 x8 x9 x10 x11 = some (r, σ') → va_P g classes (WC ts a σ) H → va_D A (WC ts a σ) → va_S A s.heap H locs → lv_has ls 12 [(0, .ref (a 12)), (1, .int x1), (2, .int x2), (4, .int x4), (5, .int x5), (6, .int x6), (7, .int x7), (8, .int x8), (9, .int x9), (10, .int x10), (11, .int x11)] → W p l e (rk 5 131) s m args below meth c H locs 0 0 Q (F0 m 71 ls []) := by
  have hx := C.1
  have hb := C.2.1
  have hown := C.2.2.2.1
  have hts := C.2.2.2.2.1
  intro σ x1 x2 x4 x5 x6 x7 x8 x9 x10 x11 H locs ls hf hP hD hS hl
  rw [f_X9_draws_b71] at hf
  refine lv_aload_n hx hb dX9_draws_71 rfl (lv_at hl 0 rfl) ?_
  refine G_X9_line C hP q_184 dX9_draws_72 ?_
  refine lv_iload hx hb dX9_draws_75 (lv_at hl 4 rfl) ?_
  refine lv_iload hx hb dX9_draws_77 (lv_at hl 10 rfl) ?_
  refine lv_iconst (v := 0) hx hb dX9_draws_79 (by decide) ?_
  obtain ⟨r19, σ20, h18, hf⟩ := bnd2_some hf
  refine vI [] C hP hD hS (c_X5_heardBy h18) mv_X5_heardBy q_888 rv_X5 dX9_draws_80 ⟨Nat.le_of_ble_eq_true rfl, Nat.le_of_ble_eq_true rfl⟩ ⟨Nat.zero_le _, Nat.zero_le _⟩ rfl rfl (Nat.le_of_ble_eq_true rfl) hl.1 (fun H locs hP hD hS => ?_)
  refine lv_iload hx hb dX9_draws_83 (lv_at hl 10 rfl) ?_
  refine lv_icmp_eq (tgt := 91) hx hb dX9_draws_85 (by decide) (fun c21 => ?_) (fun c21 => ?_)
  · replace hf := ipos c21 hf
    obtain ⟨v22, ev22⟩ : ∃ z : Int32, z = x10 + 1 := ⟨_, rfl⟩
    replace hf := bnd_at ev22 hf
    refine lv_iinc (v := v22) (lv' := [(10, .int v22), (0, .ref (a 12)), (1, .int x1), (2, .int x2), (4, .int x4), (5, .int x5), (6, .int x6), (7, .int x7), (8, .int x8), (9, .int x9), (11, .int x11)]) hx hb dX9_draws_91 hl (k := 9) rfl (by rw [ev22]; rfl) (by decide) rfl (fun ls hl => ?_)
    refine lv_goto (tgt := 25) hx hb dX9_draws_94 (by decide) ?_
    exact hk25 _ _ _ _ _ _ _ _ _ _ _ _ _ hf hP hD hS (lv_sub hl [1, 2, 3, 4, 5, 6, 7, 8, 9, 0] rfl)
  · replace hf := ineg c21 hf
    obtain ⟨v23, ev23⟩ : ∃ z : Int32, z = x7 + 1 := ⟨_, rfl⟩
    replace hf := bnd_at ev23 hf
    refine lv_iinc (v := v23) (lv' := [(7, .int v23), (0, .ref (a 12)), (1, .int x1), (2, .int x2), (4, .int x4), (5, .int x5), (6, .int x6), (8, .int x8), (9, .int x9), (10, .int x10), (11, .int x11)]) hx hb dX9_draws_88 hl (k := 6) rfl (by rw [ev23]; rfl) (by decide) rfl (fun ls hl => ?_)
    obtain ⟨v24, ev24⟩ : ∃ z : Int32, z = x10 + 1 := ⟨_, rfl⟩
    replace hf := bnd_at ev24 hf
    refine lv_iinc (v := v24) (lv' := [(10, .int v24), (7, .int v23), (0, .ref (a 12)), (1, .int x1), (2, .int x2), (4, .int x4), (5, .int x5), (6, .int x6), (8, .int x8), (9, .int x9), (11, .int x11)]) hx hb dX9_draws_91 hl (k := 9) rfl (by rw [ev24]; rfl) (by decide) rfl (fun ls hl => ?_)
    refine lv_goto (tgt := 25) hx hb dX9_draws_94 (by decide) ?_
    exact hk25 _ _ _ _ _ _ _ _ _ _ _ _ _ hf hP hD hS (lv_sub hl [2, 3, 4, 5, 6, 7, 1, 8, 9, 0] rfl)
set_option maxHeartbeats 4000000 in
set_option maxRecDepth 100000 in
theorem w_X9_draws_b25 {p : Program} {l : Launch} {e : Env} {s : State} {m : MethodId} {args : Array Value} {below : List Frame} {meth : Method} {c : Code} {g : va_G} {ts : ClassId × ClassId × ClassId} {A : Nat → Prop} {Q : State → Prop} {a : Nat → Nat} {r : Int32} {σ' : St} {k12 : St → Int32 → Int32 → Int32 → Int32 → Int32 → Int32 → Int32 → Option (Int32 × St)} (C : FX p s m args meth c RX9 cX9_draws 12 g ts A) (hQ : RetI p l e (rk 5 131) s m args below meth c cX9_draws g (WC ts a) A r σ' Q) (hk12 : ∀ (σ : St) (x1 : Int32) (x2 : Int32) (x4 : Int32) (x5 : Int32) (x6 : Int32) (x7 : Int32) (x8 : Int32) (H : Heap) (locs : List Loc) (ls : Array Slot), k12 σ x1 x2 x4 x5 x6 x7 x8 = some (r, σ') → va_P g classes (WC ts a σ) H → va_D A (WC ts a σ) → va_S A s.heap H locs → lv_has ls 12 [(0, .ref (a 12)), (1, .int x1), (2, .int x2), (4, .int x4), (5, .int x5), (6, .int x6), (7, .int x7), (8, .int x8)] → W p l e (rk 5 131) s m args below meth c H locs 0 0 Q (F0 m 12 ls [])) : ∀ (n : Nat) (σ : St) (x1 : Int32) (x2 : Int32) (x4 : Int32) (x5 : Int32) (x6 : Int32) (x7 : Int32) (x8 : Int32) (x9 : Int32) (x10 : Int32) (H : Heap) (locs : List Loc) (ls : Array Slot), f_X9_draws_b25 k12 n σ x1 x2 x4 x5 x6 x7 x8 x9 x10 = some (r, σ') → va_P g classes (WC ts a σ) H → va_D A (WC ts a σ) → va_S A s.heap H locs → lv_has ls 12 [(0, .ref (a 12)), (1, .int x1), (2, .int x2), (4, .int x4), (5, .int x5), (6, .int x6), (7, .int x7), (8, .int x8), (9, .int x9), (10, .int x10)] → W p l e (rk 5 131) s m args below meth c H locs 0 0 Q (F0 m 25 ls []) := by
  have hx := C.1
  have hb := C.2.1
  have hown := C.2.2.2.1
  have hts := C.2.2.2.2.1
  intro n
  induction n with
  | zero =>
    intro σ x1 x2 x4 x5 x6 x7 x8 x9 x10 H locs ls hf
    cases hf
  | succ n ih =>
    intro σ x1 x2 x4 x5 x6 x7 x8 x9 x10 H locs ls hf hP hD hS hl
    rw [f_X9_draws_b25] at hf
    refine lv_iload hx hb dX9_draws_25 (lv_at hl 9 rfl) ?_
    refine lv_aload_n hx hb dX9_draws_27 rfl (lv_at hl 0 rfl) ?_
    refine G_X9_names C hP q_183 dX9_draws_28 ?_
    refine G_X6_sizes C hP q_157 dX9_draws_31 ?_
    refine lv_iload_n hx hb dX9_draws_34 rfl (lv_at hl 1 rfl) ?_
    obtain ⟨h3, hf⟩ := chk_some hf
    refine AL_X6_sizes C hP h3 dX9_draws_35 ?_
    refine lv_icmp_ge (tgt := 97) hx hb dX9_draws_36 (by decide) (fun c4 => ?_) (fun c4 => ?_)
    · replace hf := ipos c4 hf
      refine lv_iload hx hb dX9_draws_97 (lv_at hl 6 rfl) ?_
      refine lv_iload hx hb dX9_draws_99 (lv_at hl 8 rfl) ?_
      refine lv_icmp_ne (tgt := 107) hx hb dX9_draws_101 (by decide) (fun c5 => ?_) (fun c5 => ?_)
      · replace hf := ineg c5 hf
        obtain ⟨v6, ev6⟩ : ∃ z : Int32, z = x8 + 1 := ⟨_, rfl⟩
        replace hf := bnd_at ev6 hf
        refine lv_iinc (v := v6) (lv' := [(8, .int v6), (0, .ref (a 12)), (1, .int x1), (2, .int x2), (4, .int x4), (5, .int x5), (6, .int x6), (7, .int x7), (9, .int x9), (10, .int x10)]) hx hb dX9_draws_107 hl (k := 7) rfl (by rw [ev6]; rfl) (by decide) rfl (fun ls hl => ?_)
        refine lv_goto (tgt := 12) hx hb dX9_draws_110 (by decide) ?_
        exact hk12 _ _ _ _ _ _ _ _ _ _ _ hf hP hD hS (lv_sub hl [1, 2, 3, 4, 5, 6, 7, 0] rfl)
      · replace hf := ipos c5 hf
        obtain ⟨v7, ev7⟩ : ∃ z : Int32, z = x6 + 1 := ⟨_, rfl⟩
        replace hf := bnd_at ev7 hf
        refine lv_iinc (v := v7) (lv' := [(6, .int v7), (0, .ref (a 12)), (1, .int x1), (2, .int x2), (4, .int x4), (5, .int x5), (7, .int x7), (8, .int x8), (9, .int x9), (10, .int x10)]) hx hb dX9_draws_104 hl (k := 5) rfl (by rw [ev7]; rfl) (by decide) rfl (fun ls hl => ?_)
        obtain ⟨v8, ev8⟩ : ∃ z : Int32, z = x8 + 1 := ⟨_, rfl⟩
        replace hf := bnd_at ev8 hf
        refine lv_iinc (v := v8) (lv' := [(8, .int v8), (6, .int v7), (0, .ref (a 12)), (1, .int x1), (2, .int x2), (4, .int x4), (5, .int x5), (7, .int x7), (9, .int x9), (10, .int x10)]) hx hb dX9_draws_107 hl (k := 7) rfl (by rw [ev8]; rfl) (by decide) rfl (fun ls hl => ?_)
        refine lv_goto (tgt := 12) hx hb dX9_draws_110 (by decide) ?_
        exact hk12 _ _ _ _ _ _ _ _ _ _ _ hf hP hD hS (lv_sub hl [2, 3, 4, 5, 6, 1, 7, 0] rfl)
    · replace hf := ineg c4 hf
      refine lv_aload_n hx hb dX9_draws_39 rfl (lv_at hl 0 rfl) ?_
      refine G_X9_names C hP q_183 dX9_draws_40 ?_
      refine lv_iload_n hx hb dX9_draws_43 rfl (lv_at hl 1 rfl) ?_
      refine lv_iload hx hb dX9_draws_44 (lv_at hl 9 rfl) ?_
      obtain ⟨r10, σ11, h9, hf⟩ := bnd2_some hf
      refine vI [] C hP hD hS (c_X6_at h9) mv_X6_at q_757 rv_X6 dX9_draws_46 ⟨Nat.le_of_ble_eq_true rfl, Nat.le_of_ble_eq_true rfl⟩ ⟨Nat.zero_le _, Nat.zero_le _⟩ rfl rfl (Nat.le_of_ble_eq_true rfl) hl.1 (fun H locs hP hD hS => ?_)
      refine lv_istore (lv' := [(11, .int r10), (0, .ref (a 12)), (1, .int x1), (2, .int x2), (4, .int x4), (5, .int x5), (6, .int x6), (7, .int x7), (8, .int x8), (9, .int x9), (10, .int x10)]) hx hb dX9_draws_49 hl (by decide) rfl (fun ls hl => ?_)
      refine lv_aload_n hx hb dX9_draws_51 rfl (lv_at hl 1 rfl) ?_
      refine G_X9_line C hP q_184 dX9_draws_52 ?_
      refine lv_iload hx hb dX9_draws_55 (lv_at hl 0 rfl) ?_
      refine lv_iconst (v := 0) hx hb dX9_draws_57 (by decide) ?_
      obtain ⟨r13, σ14, h12, hf⟩ := bnd2_some hf
      refine vI [] C hP hD hS (c_X5_total h12) mv_X5_total q_883 rv_X5 dX9_draws_58 ⟨Nat.le_of_ble_eq_true rfl, Nat.le_of_ble_eq_true rfl⟩ ⟨Nat.zero_le _, Nat.zero_le _⟩ rfl rfl (Nat.le_of_ble_eq_true rfl) hl.1 (fun H locs hP hD hS => ?_)
      refine lv_if_le (tgt := 71) hx hb dX9_draws_61 (by decide) (fun c15 => ?_) (fun c15 => ?_)
      · replace hf := ipos c15 hf
        exact w_X9_draws_b71 C hQ hk12 ih _ _ _ _ _ _ _ _ _ _ _ _ _ _ hf hP hD hS (lv_sub hl [1, 2, 3, 4, 5, 6, 7, 8, 9, 10, 0] rfl)
      · replace hf := ineg c15 hf
        refine lv_iload hx hb dX9_draws_64 (lv_at hl 5 rfl) ?_
        obtain ⟨r17, h16, hf⟩ := bnd1_some hf
        refine tnI (host := RX11) [] C hP hD hS (c_X11_nextDraw h16) ms_X11_nextDraw (by decide +kernel) dX9_draws_66 ⟨Nat.le_of_ble_eq_true rfl, Nat.le_of_ble_eq_true rfl⟩ ⟨Nat.zero_le _, Nat.zero_le _⟩ rfl rfl (Nat.le_of_ble_eq_true rfl) hl.1 (fun H locs hP hD hS => ?_)
        refine lv_istore (lv' := [(5, .int r17), (11, .int r10), (0, .ref (a 12)), (1, .int x1), (2, .int x2), (4, .int x4), (6, .int x6), (7, .int x7), (8, .int x8), (9, .int x9), (10, .int x10)]) hx hb dX9_draws_69 hl (by decide) rfl (fun ls hl => ?_)
        exact w_X9_draws_b71 C hQ hk12 ih _ _ _ _ _ _ _ _ _ _ _ _ _ _ hf hP hD hS (lv_sub hl [2, 3, 4, 5, 0, 6, 7, 8, 9, 10, 1] rfl)
set_option maxHeartbeats 4000000 in
set_option maxRecDepth 100000 in
theorem w_X9_draws_b12 {p : Program} {l : Launch} {e : Env} {s : State} {m : MethodId} {args : Array Value} {below : List Frame} {meth : Method} {c : Code} {g : va_G} {ts : ClassId × ClassId × ClassId} {A : Nat → Prop} {Q : State → Prop} {a : Nat → Nat} {r : Int32} {σ' : St} (C : FX p s m args meth c RX9 cX9_draws 12 g ts A) (hQ : RetI p l e (rk 5 131) s m args below meth c cX9_draws g (WC ts a) A r σ' Q) : ∀ (n : Nat) (σ : St) (x1 : Int32) (x2 : Int32) (x4 : Int32) (x5 : Int32) (x6 : Int32) (x7 : Int32) (x8 : Int32) (H : Heap) (locs : List Loc) (ls : Array Slot), f_X9_draws_b12 n σ x1 x2 x4 x5 x6 x7 x8 = some (r, σ') → va_P g classes (WC ts a σ) H → va_D A (WC ts a σ) → va_S A s.heap H locs → lv_has ls 12 [(0, .ref (a 12)), (1, .int x1), (2, .int x2), (4, .int x4), (5, .int x5), (6, .int x6), (7, .int x7), (8, .int x8)] → W p l e (rk 5 131) s m args below meth c H locs 0 0 Q (F0 m 12 ls []) := by
  have hx := C.1
  have hb := C.2.1
  have hown := C.2.2.2.1
  have hts := C.2.2.2.2.1
  intro n
  induction n with
  | zero =>
    intro σ x1 x2 x4 x5 x6 x7 x8 H locs ls hf
    cases hf
  | succ n ih =>
    intro σ x1 x2 x4 x5 x6 x7 x8 H locs ls hf hP hD hS hl
    rw [f_X9_draws_b12] at hf
    refine lv_iload hx hb dX9_draws_12 (lv_at hl 7 rfl) ?_
    refine lv_iload_n hx hb dX9_draws_14 rfl (lv_at hl 2 rfl) ?_
    refine lv_icmp_ge (tgt := 113) hx hb dX9_draws_15 (by decide) (fun c1 => ?_) (fun c1 => ?_)
    · replace hf := ipos c1 hf
      refine lv_iload hx hb dX9_draws_113 (lv_at hl 3 rfl) ?_
      refine lv_if_eq (tgt := 123) hx hb dX9_draws_115 (by decide) (fun c2 => ?_) (fun c2 => ?_)
      · replace hf := ipos c2 hf
        refine lv_iload hx hb dX9_draws_123 (lv_at hl 5 rfl) ?_
        exact retI hQ hf dX9_draws_125 hP hD hS
      · replace hf := ineg c2 hf
        refine lv_iload hx hb dX9_draws_118 (lv_at hl 6 rfl) ?_
        refine lv_goto (tgt := 125) hx hb dX9_draws_120 (by decide) ?_
        exact retI hQ hf dX9_draws_125 hP hD hS
    · replace hf := ineg c1 hf
      refine lv_iload hx hb dX9_draws_18 (lv_at hl 6 rfl) ?_
      refine lv_istore (lv' := [(9, .int x7), (0, .ref (a 12)), (1, .int x1), (2, .int x2), (4, .int x4), (5, .int x5), (6, .int x6), (7, .int x7), (8, .int x8)]) hx hb dX9_draws_20 hl (by decide) rfl (fun ls hl => ?_)
      refine lv_iconst (v := 0) hx hb dX9_draws_22 (by decide) ?_
      refine lv_istore (lv' := [(10, .int (0 : Int32)), (9, .int x7), (0, .ref (a 12)), (1, .int x1), (2, .int x2), (4, .int x4), (5, .int x5), (6, .int x6), (7, .int x7), (8, .int x8)]) hx hb dX9_draws_23 hl (by decide) rfl (fun ls hl => ?_)
      exact w_X9_draws_b25 C hQ ih 256 _ _ _ _ _ _ _ _ _ _ _ _ _ hf hP hD hS (lv_sub hl [2, 3, 4, 5, 6, 7, 8, 9, 1, 0] rfl)
set_option maxHeartbeats 4000000 in
set_option maxRecDepth 100000 in
theorem c_X9_draws {l : Launch} {g : va_G} {ts : ClassId × ClassId × ClassId} {a : Nat → Nat} {σ : St} {p1 : Int32} {p2 : Int32} {p3 : Int32} {p4 : Int32} {r : Int32} {σ' : St} (hf : f_X9_draws σ p1 p2 p3 p4 = some (r, σ')) : ConI l g ts (WC ts a) yX9_draws cX9_draws 12 (some .int) (rk 5 131) σ [.ref (a 12), .int p1, .int p2, .int p3, .int p4] r σ' := by
  refine ConI_mk .int rfl rfl rfl rfl (by decide) (Nat.le_of_ble_eq_true rfl) ?_
  intro p e s m below meth c A Q ls C hQ hP hD hS hl
  have C : FX p s m _ meth c RX9 cX9_draws 12 g ts A := C
  have hx := C.1
  have hb := C.2.1
  have hown := C.2.2.2.1
  have hts := C.2.2.2.2.1
  have hl : lv_has ls 12 [(0, .ref (a 12)), (1, .int p1), (2, .int p2), (3, .int p3), (4, .int p4)] := hl
  rw [f_X9_draws] at hf
  refine lv_iload_n hx hb dX9_draws_0 rfl (lv_at hl 3 rfl) ?_
  refine lv_istore (lv' := [(5, .int p3), (0, .ref (a 12)), (1, .int p1), (2, .int p2), (3, .int p3), (4, .int p4)]) hx hb dX9_draws_1 hl (by decide) rfl (fun ls hl => ?_)
  refine lv_iconst (v := 0) hx hb dX9_draws_3 (by decide) ?_
  refine lv_istore (lv' := [(6, .int (0 : Int32)), (5, .int p3), (0, .ref (a 12)), (1, .int p1), (2, .int p2), (3, .int p3), (4, .int p4)]) hx hb dX9_draws_4 hl (by decide) rfl (fun ls hl => ?_)
  refine lv_iconst (v := 0) hx hb dX9_draws_6 (by decide) ?_
  refine lv_istore (lv' := [(7, .int (0 : Int32)), (6, .int (0 : Int32)), (5, .int p3), (0, .ref (a 12)), (1, .int p1), (2, .int p2), (3, .int p3), (4, .int p4)]) hx hb dX9_draws_7 hl (by decide) rfl (fun ls hl => ?_)
  refine lv_iconst (v := 0) hx hb dX9_draws_9 (by decide) ?_
  refine lv_istore (lv' := [(8, .int (0 : Int32)), (7, .int (0 : Int32)), (6, .int (0 : Int32)), (5, .int p3), (0, .ref (a 12)), (1, .int p1), (2, .int p2), (3, .int p3), (4, .int p4)]) hx hb dX9_draws_10 hl (by decide) rfl (fun ls hl => ?_)
  exact w_X9_draws_b12 C hQ 256 _ _ _ _ _ _ _ _ _ _ _ hf hP hD hS (lv_sub hl [4, 5, 6, 8, 3, 2, 1, 0] rfl)
