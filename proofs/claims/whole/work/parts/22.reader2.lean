theorem mv_X7_readRank : MV yX7_readRank cX7_readRank 7 (some .boolean) 2 := ⟨q_534, q_5, q_66, q_535, by decide +kernel, by decide +kernel, by decide +kernel⟩
theorem mv_X7_readOperand : MV yX7_readOperand cX7_readOperand 5 (some .boolean) 1 := ⟨q_538, q_6, q_66, q_539, by decide +kernel, by decide +kernel, by decide +kernel⟩
theorem mv_X7_readToClose : MV yX7_readToClose cX7_readToClose 2 (some .boolean) 1 := ⟨q_640, q_8, q_66, q_641, by decide +kernel, by decide +kernel, by decide +kernel⟩
theorem dX7_readRank_0 : decode cX7_readRank 0 = .ok (.iload_n 1, 1) := by decide +kernel
theorem dX7_readRank_1 : decode cX7_readRank 1 = .ok (.iconst 5, 1) := by decide +kernel
theorem dX7_readRank_2 : decode cX7_readRank 2 = .ok (.if_icmp .lt 9, 3) := by decide +kernel
theorem dX7_readRank_5 : decode cX7_readRank 5 = .ok (.aload_n 0, 1) := by decide +kernel
theorem dX7_readRank_6 : decode cX7_readRank 6 = .ok (.iload_n 2, 1) := by decide +kernel
theorem dX7_readRank_7 : decode cX7_readRank 7 = .ok (.invokevirtual 45, 3) := by decide +kernel
theorem dX7_readRank_10 : decode cX7_readRank 10 = .ok (.ireturn, 1) := by decide +kernel
theorem dX7_readRank_11 : decode cX7_readRank 11 = .ok (.aload_n 0, 1) := by decide +kernel
theorem dX7_readRank_12 : decode cX7_readRank 12 = .ok (.iload_n 1, 1) := by decide +kernel
theorem dX7_readRank_13 : decode cX7_readRank 13 = .ok (.iconst 1, 1) := by decide +kernel
theorem dX7_readRank_14 : decode cX7_readRank 14 = .ok (.iadd, 1) := by decide +kernel
theorem dX7_readRank_15 : decode cX7_readRank 15 = .ok (.iload_n 2, 1) := by decide +kernel
theorem dX7_readRank_16 : decode cX7_readRank 16 = .ok (.invokevirtual 37, 3) := by decide +kernel
theorem dX7_readRank_19 : decode cX7_readRank 19 = .ok (.istore_n 3, 1) := by decide +kernel
theorem dX7_readRank_20 : decode cX7_readRank 20 = .ok (.iload_n 1, 1) := by decide +kernel
theorem dX7_readRank_21 : decode cX7_readRank 21 = .ok (.iconst 2, 1) := by decide +kernel
theorem dX7_readRank_22 : decode cX7_readRank 22 = .ok (.if_icmp .ne 7, 3) := by decide +kernel
theorem dX7_readRank_25 : decode cX7_readRank 25 = .ok (.iconst 1, 1) := by decide +kernel
theorem dX7_readRank_26 : decode cX7_readRank 26 = .ok (.goto 5, 3) := by decide +kernel
theorem dX7_readRank_29 : decode cX7_readRank 29 = .ok (.bipush 120, 2) := by decide +kernel
theorem dX7_readRank_31 : decode cX7_readRank 31 = .ok (.istore 4, 2) := by decide +kernel
theorem dX7_readRank_33 : decode cX7_readRank 33 = .ok (.iconst 0, 1) := by decide +kernel
theorem dX7_readRank_34 : decode cX7_readRank 34 = .ok (.istore 5, 2) := by decide +kernel
theorem dX7_readRank_36 : decode cX7_readRank 36 = .ok (.iload 5, 2) := by decide +kernel
theorem dX7_readRank_38 : decode cX7_readRank 38 = .ok (.iload 4, 2) := by decide +kernel
theorem dX7_readRank_40 : decode cX7_readRank 40 = .ok (.if_icmp .ge 80, 3) := by decide +kernel
theorem dX7_readRank_43 : decode cX7_readRank 43 = .ok (.iload_n 3, 1) := by decide +kernel
theorem dX7_readRank_44 : decode cX7_readRank 44 = .ok (.ifCond .eq 76, 3) := by decide +kernel
theorem dX7_readRank_47 : decode cX7_readRank 47 = .ok (.aload_n 0, 1) := by decide +kernel
theorem dX7_readRank_48 : decode cX7_readRank 48 = .ok (.getfield 26, 3) := by decide +kernel
theorem dX7_readRank_51 : decode cX7_readRank 51 = .ok (.aload_n 0, 1) := by decide +kernel
theorem dX7_readRank_52 : decode cX7_readRank 52 = .ok (.getfield 13, 3) := by decide +kernel
theorem dX7_readRank_55 : decode cX7_readRank 55 = .ok (.if_icmp .ge 65, 3) := by decide +kernel
theorem dX7_readRank_58 : decode cX7_readRank 58 = .ok (.aload_n 0, 1) := by decide +kernel
theorem dX7_readRank_59 : decode cX7_readRank 59 = .ok (.getfield 9, 3) := by decide +kernel
theorem dX7_readRank_62 : decode cX7_readRank 62 = .ok (.aload_n 0, 1) := by decide +kernel
theorem dX7_readRank_63 : decode cX7_readRank 63 = .ok (.getfield 26, 3) := by decide +kernel
theorem dX7_readRank_66 : decode cX7_readRank 66 = .ok (.iaload, 1) := by decide +kernel
theorem dX7_readRank_67 : decode cX7_readRank 67 = .ok (.invokestatic 49, 3) := by decide +kernel
theorem dX7_readRank_70 : decode cX7_readRank 70 = .ok (.iload_n 1, 1) := by decide +kernel
theorem dX7_readRank_71 : decode cX7_readRank 71 = .ok (.if_icmp .ne 49, 3) := by decide +kernel
theorem dX7_readRank_74 : decode cX7_readRank 74 = .ok (.aload_n 0, 1) := by decide +kernel
theorem dX7_readRank_75 : decode cX7_readRank 75 = .ok (.getfield 9, 3) := by decide +kernel
theorem dX7_readRank_78 : decode cX7_readRank 78 = .ok (.aload_n 0, 1) := by decide +kernel
theorem dX7_readRank_79 : decode cX7_readRank 79 = .ok (.getfield 26, 3) := by decide +kernel
theorem dX7_readRank_82 : decode cX7_readRank 82 = .ok (.iaload, 1) := by decide +kernel
theorem dX7_readRank_83 : decode cX7_readRank 83 = .ok (.istore 6, 2) := by decide +kernel
theorem dX7_readRank_85 : decode cX7_readRank 85 = .ok (.aload_n 0, 1) := by decide +kernel
theorem dX7_readRank_86 : decode cX7_readRank 86 = .ok (.dup, 1) := by decide +kernel
theorem dX7_readRank_87 : decode cX7_readRank 87 = .ok (.getfield 26, 3) := by decide +kernel
theorem dX7_readRank_90 : decode cX7_readRank 90 = .ok (.iconst 1, 1) := by decide +kernel
theorem dX7_readRank_91 : decode cX7_readRank 91 = .ok (.iadd, 1) := by decide +kernel
theorem dX7_readRank_92 : decode cX7_readRank 92 = .ok (.putfield 26, 3) := by decide +kernel
theorem dX7_readRank_95 : decode cX7_readRank 95 = .ok (.aload_n 0, 1) := by decide +kernel
theorem dX7_readRank_96 : decode cX7_readRank 96 = .ok (.iload_n 1, 1) := by decide +kernel
theorem dX7_readRank_97 : decode cX7_readRank 97 = .ok (.iconst 1, 1) := by decide +kernel
theorem dX7_readRank_98 : decode cX7_readRank 98 = .ok (.iadd, 1) := by decide +kernel
theorem dX7_readRank_99 : decode cX7_readRank 99 = .ok (.iload_n 2, 1) := by decide +kernel
theorem dX7_readRank_100 : decode cX7_readRank 100 = .ok (.invokevirtual 37, 3) := by decide +kernel
theorem dX7_readRank_103 : decode cX7_readRank 103 = .ok (.istore_n 3, 1) := by decide +kernel
theorem dX7_readRank_104 : decode cX7_readRank 104 = .ok (.aload_n 0, 1) := by decide +kernel
theorem dX7_readRank_105 : decode cX7_readRank 105 = .ok (.getfield 17, 3) := by decide +kernel
theorem dX7_readRank_108 : decode cX7_readRank 108 = .ok (.iload 6, 2) := by decide +kernel
theorem dX7_readRank_110 : decode cX7_readRank 110 = .ok (.ineg, 1) := by decide +kernel
theorem dX7_readRank_111 : decode cX7_readRank 111 = .ok (.invokevirtual 41, 3) := by decide +kernel
theorem dX7_readRank_114 : decode cX7_readRank 114 = .ok (.iinc 5 1, 3) := by decide +kernel
theorem dX7_readRank_117 : decode cX7_readRank 117 = .ok (.goto (-81), 3) := by decide +kernel
theorem dX7_readRank_120 : decode cX7_readRank 120 = .ok (.iload_n 3, 1) := by decide +kernel
theorem dX7_readRank_121 : decode cX7_readRank 121 = .ok (.ireturn, 1) := by decide +kernel
def f_X7_readRank_b36 (rc_X7_readRank : St → Int32 → Int32 → Option (Int32 × St)) (rc_X7_readOperand : St → Int32 → Option (Int32 × St)) : Nat → St → Int32 → Int32 → Int32 → Int32 → Int32 → Option (Int32 × St)
  | 0, _, _, _, _, _, _ => none
  | n + 1, σ, x1, x2, x3, x4, x5 => if x4 ≤ x5 then (some (x3, σ)) else (if x3 = 0 then (some (x3, σ)) else (if σ.1 351 0 ≤ σ.1 352 0 then (some (x3, σ)) else (chk (σ.1 352 0 < 0 ∨ 120 ≤ (σ.1 352 0).toNatClampNeg) (bnd1 (f_X7_rankOf (σ.2.2.1 350 0 (σ.1 352 0).toNatClampNeg)) (fun r14 => if r14 = x1 then (chk (σ.1 352 0 < 0 ∨ 120 ≤ (σ.1 352 0).toNatClampNeg) (bnd (σ.2.2.1 350 0 (σ.1 352 0).toNatClampNeg) (fun v17 => bnd2 (rc_X7_readRank (sI σ 352 0 ((σ.1 352 0) + (1 : Int32))) (x1 + (1 : Int32)) x2) (fun r19 σ20 => derefL σ20 (σ20.2.2.2.2 353) (fun j21 => bnd1 (f_X4_emit σ20 j21 (-v17)) (fun σ23 => bnd (x5 + 1) (fun v24 => f_X7_readRank_b36 rc_X7_readRank rc_X7_readOperand n σ23 x1 x2 r19 x4 v24))))))) else (some (x3, σ)))))))
def f_X7_readRank10 (rc_X7_readRank : St → Int32 → Int32 → Option (Int32 × St)) (rc_X7_readOperand : St → Int32 → Option (Int32 × St)) (σ : St) (p1 : Int32) (p2 : Int32) : Option (Int32 × St) := if p1 < (5 : Int32) then (bnd2 (rc_X7_readRank σ (p1 + (1 : Int32)) p2) (fun r3 σ4 => if p1 = (2 : Int32) then (f_X7_readRank_b36 rc_X7_readRank rc_X7_readOperand 256 σ4 p1 p2 r3 (1 : Int32) (0 : Int32)) else (f_X7_readRank_b36 rc_X7_readRank rc_X7_readOperand 256 σ4 p1 p2 r3 (120 : Int32) (0 : Int32)))) else (bnd2 (rc_X7_readOperand σ p2) (fun r7 σ8 => some (r7, σ8)))
def f_X7_readRank1 (rc_X7_readRank : St → Int32 → Int32 → Option (Int32 × St)) (rc_X7_readOperand : St → Int32 → Option (Int32 × St)) (σ : St) (p1 : Int32) (p2 : Int32) : Option (Int32 × St) := chkB (f_X7_readRank10 rc_X7_readRank rc_X7_readOperand σ p1 p2)
set_option maxHeartbeats 4000000 in
set_option maxRecDepth 100000 in
theorem w_X7_readRank_b36 {p : Program} {l : Launch} {e : Env} {s : State} {m : MethodId} {args : Array Value} {below : List Frame} {meth : Method} {c : Code} {g : va_G} {ts : ClassId × ClassId × ClassId} {A : Nat → Prop} {Q : State → Prop} {a : Nat → Nat} {r : Int32} {σ' : St} {Rf Rl : Nat} {Rf_X7_readRank Rl_X7_readRank : Nat} {Rf_X7_readOperand Rl_X7_readOperand : Nat} {rc_X7_readRank : St → Int32 → Int32 → Option (Int32 × St)} {rc_X7_readOperand : St → Int32 → Option (Int32 × St)} (C : FX p s m args meth c RX7 cX7_readRank 7 g ts A) (hQ : RetI p l e (rk (Rf + 4) (Rl + 111)) s m args below meth c cX7_readRank g (WC ts a) A r σ' Q) (hrc_X7_readRank : (Rf_X7_readRank ≤ Rf ∧ Rl_X7_readRank ≤ Rl) ∧ ∀ (σ : St) (p1 : Int32) (p2 : Int32) (r : Int32) (u : St), rc_X7_readRank σ p1 p2 = some (r, u) → ConI l g ts (WC ts a) yX7_readRank cX7_readRank 7 (some .boolean) (rk Rf_X7_readRank Rl_X7_readRank) σ [.ref (a 20), .int p1, .int p2] r u) (hrc_X7_readOperand : (Rf_X7_readOperand ≤ Rf ∧ Rl_X7_readOperand ≤ Rl) ∧ ∀ (σ : St) (p1 : Int32) (r : Int32) (u : St), rc_X7_readOperand σ p1 = some (r, u) → ConI l g ts (WC ts a) yX7_readOperand cX7_readOperand 5 (some .boolean) (rk Rf_X7_readOperand Rl_X7_readOperand) σ [.ref (a 20), .int p1] r u) : ∀ (n : Nat) (σ : St) (x1 : Int32) (x2 : Int32) (x3 : Int32) (x4 : Int32) (x5 : Int32) (H : Heap) (locs : List Loc) (ls : Array Slot), f_X7_readRank_b36 rc_X7_readRank rc_X7_readOperand n σ x1 x2 x3 x4 x5 = some (r, σ') → va_P g classes (WC ts a σ) H → va_D A (WC ts a σ) → va_S A s.heap H locs → lv_has ls 7 [(0, .ref (a 20)), (1, .int x1), (2, .int x2), (3, .int x3), (4, .int x4), (5, .int x5)] → W p l e (rk (Rf + 4) (Rl + 111)) s m args below meth c H locs 0 0 Q (F0 m 36 ls []) := by
  have hx := C.1
  have hb := C.2.1
  have hown := C.2.2.2.1
  have hts := C.2.2.2.2.1
  intro n
  induction n with
  | zero =>
    intro σ x1 x2 x3 x4 x5 H locs ls hf
    cases hf
  | succ n ih =>
    intro σ x1 x2 x3 x4 x5 H locs ls hf hP hD hS hl
    rw [f_X7_readRank_b36] at hf
    refine lv_iload hx hb dX7_readRank_36 (lv_at hl 5 rfl) ?_
    refine lv_iload hx hb dX7_readRank_38 (lv_at hl 4 rfl) ?_
    refine lv_icmp_ge (tgt := 120) hx hb dX7_readRank_40 (by decide) (fun c9 => ?_) (fun c9 => ?_)
    · replace hf := ipos c9 hf
      refine lv_iload_n hx hb dX7_readRank_120 rfl (lv_at hl 3 rfl) ?_
      exact retI hQ hf dX7_readRank_121 hP hD hS
    · replace hf := ineg c9 hf
      refine lv_iload_n hx hb dX7_readRank_43 rfl (lv_at hl 3 rfl) ?_
      refine lv_if_eq (tgt := 120) hx hb dX7_readRank_44 (by decide) (fun c10 => ?_) (fun c10 => ?_)
      · replace hf := ipos c10 hf
        refine lv_iload_n hx hb dX7_readRank_120 rfl (lv_at hl 3 rfl) ?_
        exact retI hQ hf dX7_readRank_121 hP hD hS
      · replace hf := ineg c10 hf
        refine lv_aload_n hx hb dX7_readRank_47 rfl (lv_at hl 0 rfl) ?_
        refine G_X7_at C hP q_248 dX7_readRank_48 ?_
        refine lv_aload_n hx hb dX7_readRank_51 rfl (lv_at hl 0 rfl) ?_
        refine G_X7_length C hP q_246 dX7_readRank_52 ?_
        refine lv_icmp_ge (tgt := 120) hx hb dX7_readRank_55 (by decide) (fun c11 => ?_) (fun c11 => ?_)
        · replace hf := ipos c11 hf
          refine lv_iload_n hx hb dX7_readRank_120 rfl (lv_at hl 3 rfl) ?_
          exact retI hQ hf dX7_readRank_121 hP hD hS
        · replace hf := ineg c11 hf
          refine lv_aload_n hx hb dX7_readRank_58 rfl (lv_at hl 0 rfl) ?_
          refine G_X7_tape C hP q_245 dX7_readRank_59 ?_
          refine lv_aload_n hx hb dX7_readRank_62 rfl (lv_at hl 0 rfl) ?_
          refine G_X7_at C hP q_248 dX7_readRank_63 ?_
          obtain ⟨h12, hf⟩ := chk_some hf
          refine AL_X7_tape C hP h12 dX7_readRank_66 ?_
          obtain ⟨r14, h13, hf⟩ := bnd1_some hf
          refine tI [] C hP hD hS (c_X7_rankOf h13) ms_X7_rankOf q_646 dX7_readRank_67 ⟨by show 0 + 1 ≤ _ + _; omega, by show 8 + (1 + 11) + 0 ≤ _ + _; omega⟩ ⟨Nat.zero_le _, Nat.zero_le _⟩ rfl rfl (Nat.le_of_ble_eq_true rfl) hl.1 (fun H locs hP hD hS => ?_)
          refine lv_iload_n hx hb dX7_readRank_70 rfl (lv_at hl 1 rfl) ?_
          refine lv_icmp_ne (tgt := 120) hx hb dX7_readRank_71 (by decide) (fun c15 => ?_) (fun c15 => ?_)
          · replace hf := ineg c15 hf
            refine lv_iload_n hx hb dX7_readRank_120 rfl (lv_at hl 3 rfl) ?_
            exact retI hQ hf dX7_readRank_121 hP hD hS
          · replace hf := ipos c15 hf
            refine lv_aload_n hx hb dX7_readRank_74 rfl (lv_at hl 0 rfl) ?_
            refine G_X7_tape C hP q_245 dX7_readRank_75 ?_
            refine lv_aload_n hx hb dX7_readRank_78 rfl (lv_at hl 0 rfl) ?_
            refine G_X7_at C hP q_248 dX7_readRank_79 ?_
            obtain ⟨h16, hf⟩ := chk_some hf
            refine AL_X7_tape C hP h16 dX7_readRank_82 ?_
            refine lv_topi (fun v17 ev17 => ?_)
            replace hf := bnd_at ev17 hf
            refine lv_istore (lv' := [(6, .int v17), (0, .ref (a 20)), (1, .int x1), (2, .int x2), (3, .int x3), (4, .int x4), (5, .int x5)]) hx hb dX7_readRank_83 hl (by decide) rfl (fun ls hl => ?_)
            refine lv_aload_n hx hb dX7_readRank_85 rfl (lv_at hl 1 rfl) ?_
            refine lv_dup hx hb dX7_readRank_86 rfl ?_
            refine G_X7_at C hP q_248 dX7_readRank_87 ?_
            refine lv_iconst (v := 1) hx hb dX7_readRank_90 (by decide) ?_
            refine lv_iadd hx hb dX7_readRank_91 ?_
            refine S_X7_at C hP hD hS q_248 dX7_readRank_92 (fun H locs hP hD hS => ?_)
            refine lv_aload_n hx hb dX7_readRank_95 rfl (lv_at hl 1 rfl) ?_
            refine lv_iload_n hx hb dX7_readRank_96 rfl (lv_at hl 2 rfl) ?_
            refine lv_iconst (v := 1) hx hb dX7_readRank_97 (by decide) ?_
            refine lv_iadd hx hb dX7_readRank_98 ?_
            refine lv_iload_n hx hb dX7_readRank_99 rfl (lv_at hl 3 rfl) ?_
            obtain ⟨r19, σ20, h18, hf⟩ := bnd2_some hf
            refine vI [] C hP hD hS (hrc_X7_readRank.2 _ _ _ _ _  h18) mv_X7_readRank q_532 rv_X7 dX7_readRank_100 ⟨by have hz := hrc_X7_readRank.1; show Rf_X7_readRank + 1 ≤ Rf + _; omega, by have hz := hrc_X7_readRank.1; show 8 + (7 + 11) + Rl_X7_readRank ≤ Rl + _; omega⟩ ⟨Nat.zero_le _, Nat.zero_le _⟩ rfl rfl (Nat.le_of_ble_eq_true rfl) hl.1 (fun H locs hP hD hS => ?_)
            refine lv_istore_n (lv' := [(3, .int r19), (6, .int v17), (0, .ref (a 20)), (1, .int x1), (2, .int x2), (4, .int x4), (5, .int x5)]) hx hb dX7_readRank_103 rfl hl (by decide) rfl (fun ls hl => ?_)
            refine lv_aload_n hx hb dX7_readRank_104 rfl (lv_at hl 2 rfl) ?_
            refine G_X7_law C hP q_249 dX7_readRank_105 ?_
            obtain ⟨j21, ej21, fj21, hf⟩ := derefL_some hf
            rw [lawv_s ej21]
            refine lv_iload hx hb dX7_readRank_108 (lv_at hl 1 rfl) ?_
            refine lv_ineg hx hb dX7_readRank_110 ?_
            obtain ⟨σ23, h22, hf⟩ := bnd1_some hf
            refine vV [] C hP hD hS (c_X4_emit fj21 h22) mv_X4_emit q_547 (rv_X4 fj21) dX7_readRank_111 ⟨by show 0 + 1 ≤ _ + _; omega, by show 8 + (2 + 11) + 0 ≤ _ + _; omega⟩ ⟨Nat.zero_le _, Nat.zero_le _⟩ rfl rfl (Nat.le_of_ble_eq_true rfl) hl.1 (fun H locs hP hD hS => ?_)
            obtain ⟨v24, ev24⟩ : ∃ z : Int32, z = x5 + 1 := ⟨_, rfl⟩
            replace hf := bnd_at ev24 hf
            refine lv_iinc (v := v24) (lv' := [(5, .int v24), (3, .int r19), (6, .int v17), (0, .ref (a 20)), (1, .int x1), (2, .int x2), (4, .int x4)]) hx hb dX7_readRank_114 hl (k := 6) rfl (by rw [ev24]; rfl) (by decide) rfl (fun ls hl => ?_)
            refine lv_goto (tgt := 36) hx hb dX7_readRank_117 (by decide) ?_
            exact ih _ _ _ _ _ _ _ _ _ hf hP hD hS (lv_sub hl [3, 4, 5, 1, 6, 0] rfl)
set_option maxHeartbeats 4000000 in
set_option maxRecDepth 100000 in
theorem c_X7_readRank1 {l : Launch} {g : va_G} {ts : ClassId × ClassId × ClassId} {a : Nat → Nat} {σ : St} {p1 : Int32} {p2 : Int32} {r : Int32} {σ' : St} {Rf Rl : Nat} {Rf_X7_readRank Rl_X7_readRank : Nat} {Rf_X7_readOperand Rl_X7_readOperand : Nat} {rc_X7_readRank : St → Int32 → Int32 → Option (Int32 × St)} {rc_X7_readOperand : St → Int32 → Option (Int32 × St)} (hrc_X7_readRank : (Rf_X7_readRank ≤ Rf ∧ Rl_X7_readRank ≤ Rl) ∧ ∀ (σ : St) (p1 : Int32) (p2 : Int32) (r : Int32) (u : St), rc_X7_readRank σ p1 p2 = some (r, u) → ConI l g ts (WC ts a) yX7_readRank cX7_readRank 7 (some .boolean) (rk Rf_X7_readRank Rl_X7_readRank) σ [.ref (a 20), .int p1, .int p2] r u) (hrc_X7_readOperand : (Rf_X7_readOperand ≤ Rf ∧ Rl_X7_readOperand ≤ Rl) ∧ ∀ (σ : St) (p1 : Int32) (r : Int32) (u : St), rc_X7_readOperand σ p1 = some (r, u) → ConI l g ts (WC ts a) yX7_readOperand cX7_readOperand 5 (some .boolean) (rk Rf_X7_readOperand Rl_X7_readOperand) σ [.ref (a 20), .int p1] r u) (hf : f_X7_readRank1 rc_X7_readRank rc_X7_readOperand σ p1 p2 = some (r, σ')) : ConI l g ts (WC ts a) yX7_readRank cX7_readRank 7 (some .boolean) (rk (Rf + 4) (Rl + 111)) σ [.ref (a 20), .int p1, .int p2] r σ' := by
  rw [f_X7_readRank1] at hf
  obtain ⟨hf, hn⟩ := chkB_some hf
  refine ConI_mk .boolean rfl hn rfl rfl (by decide) (Nat.le_of_ble_eq_true rfl) ?_
  intro p e s m below meth c A Q ls C hQ hP hD hS hl
  have C : FX p s m _ meth c RX7 cX7_readRank 7 g ts A := C
  have hx := C.1
  have hb := C.2.1
  have hown := C.2.2.2.1
  have hts := C.2.2.2.2.1
  have hl : lv_has ls 7 [(0, .ref (a 20)), (1, .int p1), (2, .int p2)] := hl
  rw [f_X7_readRank10] at hf
  refine lv_iload_n hx hb dX7_readRank_0 rfl (lv_at hl 1 rfl) ?_
  refine lv_iconst (v := 5) hx hb dX7_readRank_1 (by decide) ?_
  refine lv_icmp_lt (tgt := 11) hx hb dX7_readRank_2 (by decide) (fun c1 => ?_) (fun c1 => ?_)
  · replace hf := ipos c1 hf
    refine lv_aload_n hx hb dX7_readRank_11 rfl (lv_at hl 0 rfl) ?_
    refine lv_iload_n hx hb dX7_readRank_12 rfl (lv_at hl 1 rfl) ?_
    refine lv_iconst (v := 1) hx hb dX7_readRank_13 (by decide) ?_
    refine lv_iadd hx hb dX7_readRank_14 ?_
    refine lv_iload_n hx hb dX7_readRank_15 rfl (lv_at hl 2 rfl) ?_
    obtain ⟨r3, σ4, h2, hf⟩ := bnd2_some hf
    refine vI [] C hP hD hS (hrc_X7_readRank.2 _ _ _ _ _  h2) mv_X7_readRank q_532 rv_X7 dX7_readRank_16 ⟨by have hz := hrc_X7_readRank.1; show Rf_X7_readRank + 1 ≤ Rf + _; omega, by have hz := hrc_X7_readRank.1; show 8 + (7 + 11) + Rl_X7_readRank ≤ Rl + _; omega⟩ ⟨Nat.zero_le _, Nat.zero_le _⟩ rfl rfl (Nat.le_of_ble_eq_true rfl) hl.1 (fun H locs hP hD hS => ?_)
    refine lv_istore_n (lv' := [(3, .int r3), (0, .ref (a 20)), (1, .int p1), (2, .int p2)]) hx hb dX7_readRank_19 rfl hl (by decide) rfl (fun ls hl => ?_)
    refine lv_iload_n hx hb dX7_readRank_20 rfl (lv_at hl 2 rfl) ?_
    refine lv_iconst (v := 2) hx hb dX7_readRank_21 (by decide) ?_
    refine lv_icmp_ne (tgt := 29) hx hb dX7_readRank_22 (by decide) (fun c5 => ?_) (fun c5 => ?_)
    · replace hf := ineg c5 hf
      refine lv_bipush (v := 120) hx hb dX7_readRank_29 (by decide) ?_
      refine lv_istore (lv' := [(4, .int (120 : Int32)), (3, .int r3), (0, .ref (a 20)), (1, .int p1), (2, .int p2)]) hx hb dX7_readRank_31 hl (by decide) rfl (fun ls hl => ?_)
      refine lv_iconst (v := 0) hx hb dX7_readRank_33 (by decide) ?_
      refine lv_istore (lv' := [(5, .int (0 : Int32)), (4, .int (120 : Int32)), (3, .int r3), (0, .ref (a 20)), (1, .int p1), (2, .int p2)]) hx hb dX7_readRank_34 hl (by decide) rfl (fun ls hl => ?_)
      exact w_X7_readRank_b36 C hQ hrc_X7_readRank hrc_X7_readOperand 256 _ _ _ _ _ _ _ _ _ hf hP hD hS (lv_sub hl [3, 4, 5, 2, 1, 0] rfl)
    · replace hf := ipos c5 hf
      refine lv_iconst (v := 1) hx hb dX7_readRank_25 (by decide) ?_
      refine lv_goto (tgt := 31) hx hb dX7_readRank_26 (by decide) ?_
      refine lv_istore (lv' := [(4, .int (1 : Int32)), (3, .int r3), (0, .ref (a 20)), (1, .int p1), (2, .int p2)]) hx hb dX7_readRank_31 hl (by decide) rfl (fun ls hl => ?_)
      refine lv_iconst (v := 0) hx hb dX7_readRank_33 (by decide) ?_
      refine lv_istore (lv' := [(5, .int (0 : Int32)), (4, .int (1 : Int32)), (3, .int r3), (0, .ref (a 20)), (1, .int p1), (2, .int p2)]) hx hb dX7_readRank_34 hl (by decide) rfl (fun ls hl => ?_)
      exact w_X7_readRank_b36 C hQ hrc_X7_readRank hrc_X7_readOperand 256 _ _ _ _ _ _ _ _ _ hf hP hD hS (lv_sub hl [3, 4, 5, 2, 1, 0] rfl)
  · replace hf := ineg c1 hf
    refine lv_aload_n hx hb dX7_readRank_5 rfl (lv_at hl 0 rfl) ?_
    refine lv_iload_n hx hb dX7_readRank_6 rfl (lv_at hl 2 rfl) ?_
    obtain ⟨r7, σ8, h6, hf⟩ := bnd2_some hf
    refine vI [] C hP hD hS (hrc_X7_readOperand.2 _ _ _ _  h6) mv_X7_readOperand q_536 rv_X7 dX7_readRank_7 ⟨by have hz := hrc_X7_readOperand.1; show Rf_X7_readOperand + 1 ≤ Rf + _; omega, by have hz := hrc_X7_readOperand.1; show 8 + (5 + 11) + Rl_X7_readOperand ≤ Rl + _; omega⟩ ⟨Nat.zero_le _, Nat.zero_le _⟩ rfl rfl (Nat.le_of_ble_eq_true rfl) hl.1 (fun H locs hP hD hS => ?_)
    exact retI hQ hf dX7_readRank_10 hP hD hS
theorem dX7_readOperand_0 : decode cX7_readOperand 0 = .ok (.aload_n 0, 1) := by decide +kernel
theorem dX7_readOperand_1 : decode cX7_readOperand 1 = .ok (.getfield 26, 3) := by decide +kernel
theorem dX7_readOperand_4 : decode cX7_readOperand 4 = .ok (.aload_n 0, 1) := by decide +kernel
theorem dX7_readOperand_5 : decode cX7_readOperand 5 = .ok (.getfield 13, 3) := by decide +kernel
theorem dX7_readOperand_8 : decode cX7_readOperand 8 = .ok (.if_icmp .lt 5, 3) := by decide +kernel
theorem dX7_readOperand_11 : decode cX7_readOperand 11 = .ok (.iconst 0, 1) := by decide +kernel
theorem dX7_readOperand_12 : decode cX7_readOperand 12 = .ok (.ireturn, 1) := by decide +kernel
theorem dX7_readOperand_13 : decode cX7_readOperand 13 = .ok (.aload_n 0, 1) := by decide +kernel
theorem dX7_readOperand_14 : decode cX7_readOperand 14 = .ok (.getfield 9, 3) := by decide +kernel
theorem dX7_readOperand_17 : decode cX7_readOperand 17 = .ok (.aload_n 0, 1) := by decide +kernel
theorem dX7_readOperand_18 : decode cX7_readOperand 18 = .ok (.getfield 26, 3) := by decide +kernel
theorem dX7_readOperand_21 : decode cX7_readOperand 21 = .ok (.iaload, 1) := by decide +kernel
theorem dX7_readOperand_22 : decode cX7_readOperand 22 = .ok (.istore_n 2, 1) := by decide +kernel
theorem dX7_readOperand_23 : decode cX7_readOperand 23 = .ok (.iload_n 2, 1) := by decide +kernel
theorem dX7_readOperand_24 : decode cX7_readOperand 24 = .ok (.invokestatic 53, 3) := by decide +kernel
theorem dX7_readOperand_27 : decode cX7_readOperand 27 = .ok (.ifCond .eq 9, 3) := by decide +kernel
theorem dX7_readOperand_30 : decode cX7_readOperand 30 = .ok (.aload_n 0, 1) := by decide +kernel
theorem dX7_readOperand_31 : decode cX7_readOperand 31 = .ok (.invokevirtual 56, 3) := by decide +kernel
theorem dX7_readOperand_34 : decode cX7_readOperand 34 = .ok (.iconst 1, 1) := by decide +kernel
theorem dX7_readOperand_35 : decode cX7_readOperand 35 = .ok (.ireturn, 1) := by decide +kernel
theorem dX7_readOperand_36 : decode cX7_readOperand 36 = .ok (.ldc 59, 2) := by decide +kernel
theorem dX7_readOperand_38 : decode cX7_readOperand 38 = .ok (.iload_n 2, 1) := by decide +kernel
theorem dX7_readOperand_39 : decode cX7_readOperand 39 = .ok (.i2c, 1) := by decide +kernel
theorem dX7_readOperand_40 : decode cX7_readOperand 40 = .ok (.invokevirtual 61, 3) := by decide +kernel
theorem dX7_readOperand_43 : decode cX7_readOperand 43 = .ok (.istore_n 3, 1) := by decide +kernel
theorem dX7_readOperand_44 : decode cX7_readOperand 44 = .ok (.iload_n 3, 1) := by decide +kernel
theorem dX7_readOperand_45 : decode cX7_readOperand 45 = .ok (.ifCond .lt 25, 3) := by decide +kernel
theorem dX7_readOperand_48 : decode cX7_readOperand 48 = .ok (.aload_n 0, 1) := by decide +kernel
theorem dX7_readOperand_49 : decode cX7_readOperand 49 = .ok (.dup, 1) := by decide +kernel
theorem dX7_readOperand_50 : decode cX7_readOperand 50 = .ok (.getfield 26, 3) := by decide +kernel
theorem dX7_readOperand_53 : decode cX7_readOperand 53 = .ok (.iconst 1, 1) := by decide +kernel
theorem dX7_readOperand_54 : decode cX7_readOperand 54 = .ok (.iadd, 1) := by decide +kernel
theorem dX7_readOperand_55 : decode cX7_readOperand 55 = .ok (.putfield 26, 3) := by decide +kernel
theorem dX7_readOperand_58 : decode cX7_readOperand 58 = .ok (.aload_n 0, 1) := by decide +kernel
theorem dX7_readOperand_59 : decode cX7_readOperand 59 = .ok (.getfield 17, 3) := by decide +kernel
theorem dX7_readOperand_62 : decode cX7_readOperand 62 = .ok (.iconst (-1), 1) := by decide +kernel
theorem dX7_readOperand_63 : decode cX7_readOperand 63 = .ok (.iload_n 3, 1) := by decide +kernel
theorem dX7_readOperand_64 : decode cX7_readOperand 64 = .ok (.isub, 1) := by decide +kernel
theorem dX7_readOperand_65 : decode cX7_readOperand 65 = .ok (.invokevirtual 41, 3) := by decide +kernel
theorem dX7_readOperand_68 : decode cX7_readOperand 68 = .ok (.iconst 1, 1) := by decide +kernel
theorem dX7_readOperand_69 : decode cX7_readOperand 69 = .ok (.ireturn, 1) := by decide +kernel
theorem dX7_readOperand_70 : decode cX7_readOperand 70 = .ok (.iload_n 1, 1) := by decide +kernel
theorem dX7_readOperand_71 : decode cX7_readOperand 71 = .ok (.bipush 6, 2) := by decide +kernel
theorem dX7_readOperand_73 : decode cX7_readOperand 73 = .ok (.if_icmp .ge 21, 3) := by decide +kernel
theorem dX7_readOperand_76 : decode cX7_readOperand 76 = .ok (.iload_n 2, 1) := by decide +kernel
theorem dX7_readOperand_77 : decode cX7_readOperand 77 = .ok (.bipush 40, 2) := by decide +kernel
theorem dX7_readOperand_79 : decode cX7_readOperand 79 = .ok (.if_icmp .eq 17, 3) := by decide +kernel
theorem dX7_readOperand_82 : decode cX7_readOperand 82 = .ok (.iload_n 2, 1) := by decide +kernel
theorem dX7_readOperand_83 : decode cX7_readOperand 83 = .ok (.bipush 33, 2) := by decide +kernel
theorem dX7_readOperand_85 : decode cX7_readOperand 85 = .ok (.if_icmp .eq 11, 3) := by decide +kernel
theorem dX7_readOperand_88 : decode cX7_readOperand 88 = .ok (.iload_n 2, 1) := by decide +kernel
theorem dX7_readOperand_89 : decode cX7_readOperand 89 = .ok (.bipush 45, 2) := by decide +kernel
theorem dX7_readOperand_91 : decode cX7_readOperand 91 = .ok (.if_icmp .eq 5, 3) := by decide +kernel
theorem dX7_readOperand_94 : decode cX7_readOperand 94 = .ok (.iconst 0, 1) := by decide +kernel
theorem dX7_readOperand_95 : decode cX7_readOperand 95 = .ok (.ireturn, 1) := by decide +kernel
theorem dX7_readOperand_96 : decode cX7_readOperand 96 = .ok (.aload_n 0, 1) := by decide +kernel
theorem dX7_readOperand_97 : decode cX7_readOperand 97 = .ok (.dup, 1) := by decide +kernel
theorem dX7_readOperand_98 : decode cX7_readOperand 98 = .ok (.getfield 26, 3) := by decide +kernel
theorem dX7_readOperand_101 : decode cX7_readOperand 101 = .ok (.iconst 1, 1) := by decide +kernel
theorem dX7_readOperand_102 : decode cX7_readOperand 102 = .ok (.iadd, 1) := by decide +kernel
theorem dX7_readOperand_103 : decode cX7_readOperand 103 = .ok (.putfield 26, 3) := by decide +kernel
theorem dX7_readOperand_106 : decode cX7_readOperand 106 = .ok (.iload_n 2, 1) := by decide +kernel
theorem dX7_readOperand_107 : decode cX7_readOperand 107 = .ok (.bipush 40, 2) := by decide +kernel
theorem dX7_readOperand_109 : decode cX7_readOperand 109 = .ok (.if_icmp .ne 11, 3) := by decide +kernel
theorem dX7_readOperand_112 : decode cX7_readOperand 112 = .ok (.aload_n 0, 1) := by decide +kernel
theorem dX7_readOperand_113 : decode cX7_readOperand 113 = .ok (.iload_n 1, 1) := by decide +kernel
theorem dX7_readOperand_114 : decode cX7_readOperand 114 = .ok (.iconst 1, 1) := by decide +kernel
theorem dX7_readOperand_115 : decode cX7_readOperand 115 = .ok (.iadd, 1) := by decide +kernel
theorem dX7_readOperand_116 : decode cX7_readOperand 116 = .ok (.invokevirtual 66, 3) := by decide +kernel
theorem dX7_readOperand_119 : decode cX7_readOperand 119 = .ok (.ireturn, 1) := by decide +kernel
theorem dX7_readOperand_120 : decode cX7_readOperand 120 = .ok (.aload_n 0, 1) := by decide +kernel
theorem dX7_readOperand_121 : decode cX7_readOperand 121 = .ok (.iload_n 1, 1) := by decide +kernel
theorem dX7_readOperand_122 : decode cX7_readOperand 122 = .ok (.iconst 1, 1) := by decide +kernel
theorem dX7_readOperand_123 : decode cX7_readOperand 123 = .ok (.iadd, 1) := by decide +kernel
theorem dX7_readOperand_124 : decode cX7_readOperand 124 = .ok (.invokevirtual 45, 3) := by decide +kernel
theorem dX7_readOperand_127 : decode cX7_readOperand 127 = .ok (.istore 4, 2) := by decide +kernel
theorem dX7_readOperand_129 : decode cX7_readOperand 129 = .ok (.aload_n 0, 1) := by decide +kernel
theorem dX7_readOperand_130 : decode cX7_readOperand 130 = .ok (.getfield 17, 3) := by decide +kernel
theorem dX7_readOperand_133 : decode cX7_readOperand 133 = .ok (.iload_n 2, 1) := by decide +kernel
theorem dX7_readOperand_134 : decode cX7_readOperand 134 = .ok (.bipush 45, 2) := by decide +kernel
theorem dX7_readOperand_136 : decode cX7_readOperand 136 = .ok (.if_icmp .ne 8, 3) := by decide +kernel
theorem dX7_readOperand_139 : decode cX7_readOperand 139 = .ok (.bipush (-126), 2) := by decide +kernel
theorem dX7_readOperand_141 : decode cX7_readOperand 141 = .ok (.goto 5, 3) := by decide +kernel
theorem dX7_readOperand_144 : decode cX7_readOperand 144 = .ok (.bipush (-33), 2) := by decide +kernel
theorem dX7_readOperand_146 : decode cX7_readOperand 146 = .ok (.invokevirtual 41, 3) := by decide +kernel
theorem dX7_readOperand_149 : decode cX7_readOperand 149 = .ok (.iload 4, 2) := by decide +kernel
theorem dX7_readOperand_151 : decode cX7_readOperand 151 = .ok (.ireturn, 1) := by decide +kernel
def f_X7_readOperand_b146 (rc_X7_readOperand : St → Int32 → Option (Int32 × St)) (rc_X7_readToClose : St → Int32 → Option (Int32 × St)) (σ : St) (o0 : Nat) (x4 : Int32) (s0 : Int32) : Option (Int32 × St) := bnd1 (f_X4_emit σ o0 s0) (fun σ28 => some (x4, σ28))
def f_X7_readOperand_b96 (rc_X7_readOperand : St → Int32 → Option (Int32 × St)) (rc_X7_readToClose : St → Int32 → Option (Int32 × St)) (σ : St) (x1 : Int32) (x2 : Int32) : Option (Int32 × St) := if x2 = (40 : Int32) then (bnd2 (rc_X7_readToClose (sI σ 352 0 ((σ.1 352 0) + (1 : Int32))) (x1 + (1 : Int32))) (fun r25 σ26 => some (r25, σ26))) else (bnd2 (rc_X7_readOperand (sI σ 352 0 ((σ.1 352 0) + (1 : Int32))) (x1 + (1 : Int32))) (fun r20 σ21 => derefL σ21 (σ21.2.2.2.2 353) (fun j22 => if x2 = (45 : Int32) then (f_X7_readOperand_b146 rc_X7_readOperand rc_X7_readToClose σ21 j22 r20 (-126 : Int32)) else (f_X7_readOperand_b146 rc_X7_readOperand rc_X7_readToClose σ21 j22 r20 (-33 : Int32)))))
def f_X7_readOperand10 (rc_X7_readOperand : St → Int32 → Option (Int32 × St)) (rc_X7_readToClose : St → Int32 → Option (Int32 × St)) (σ : St) (p1 : Int32) : Option (Int32 × St) := if σ.1 352 0 < σ.1 351 0 then (chk (σ.1 352 0 < 0 ∨ 120 ≤ (σ.1 352 0).toNatClampNeg) (bnd (σ.2.2.1 350 0 (σ.1 352 0).toNatClampNeg) (fun v3 => bnd1 (f_X7_isDigit v3) (fun r5 => if r5 = 0 then (bnd (idxN (((v3 : Int32).toUInt32 % 65536).toInt32)) (fun v7 => if v7 < 0 then (if (6 : Int32) ≤ p1 then (some ((0 : Int32), σ)) else (if v3 = (40 : Int32) then (f_X7_readOperand_b96 rc_X7_readOperand rc_X7_readToClose σ p1 v3) else (if v3 = (33 : Int32) then (f_X7_readOperand_b96 rc_X7_readOperand rc_X7_readToClose σ p1 v3) else (if v3 = (45 : Int32) then (f_X7_readOperand_b96 rc_X7_readOperand rc_X7_readToClose σ p1 v3) else (some ((0 : Int32), σ)))))) else (derefL (sI σ 352 0 ((σ.1 352 0) + (1 : Int32))) ((sI σ 352 0 ((σ.1 352 0) + (1 : Int32))).2.2.2.2 353) (fun j13 => bnd1 (f_X4_emit (sI σ 352 0 ((σ.1 352 0) + (1 : Int32))) j13 ((-1 : Int32) - v7)) (fun σ15 => some ((1 : Int32), σ15)))))) else (bnd1 (f_X7_readNumber σ) (fun σ17 => some ((1 : Int32), σ17))))))) else (some ((0 : Int32), σ))
def f_X7_readOperand1 (rc_X7_readOperand : St → Int32 → Option (Int32 × St)) (rc_X7_readToClose : St → Int32 → Option (Int32 × St)) (σ : St) (p1 : Int32) : Option (Int32 × St) := chkB (f_X7_readOperand10 rc_X7_readOperand rc_X7_readToClose σ p1)
set_option maxHeartbeats 4000000 in
set_option maxRecDepth 100000 in
theorem w_X7_readOperand_b146 {p : Program} {l : Launch} {e : Env} {s : State} {m : MethodId} {args : Array Value} {below : List Frame} {meth : Method} {c : Code} {g : va_G} {ts : ClassId × ClassId × ClassId} {A : Nat → Prop} {Q : State → Prop} {a : Nat → Nat} {r : Int32} {σ' : St} {Rf Rl : Nat} {Rf_X7_readOperand Rl_X7_readOperand : Nat} {Rf_X7_readToClose Rl_X7_readToClose : Nat} {rc_X7_readOperand : St → Int32 → Option (Int32 × St)} {rc_X7_readToClose : St → Int32 → Option (Int32 × St)} (C : FX p s m args meth c RX7 cX7_readOperand 5 g ts A) (hQ : RetI p l e (rk (Rf + 4) (Rl + 111)) s m args below meth c cX7_readOperand g (WC ts a) A r σ' Q) (hrc_X7_readOperand : (Rf_X7_readOperand ≤ Rf ∧ Rl_X7_readOperand ≤ Rl) ∧ ∀ (σ : St) (p1 : Int32) (r : Int32) (u : St), rc_X7_readOperand σ p1 = some (r, u) → ConI l g ts (WC ts a) yX7_readOperand cX7_readOperand 5 (some .boolean) (rk Rf_X7_readOperand Rl_X7_readOperand) σ [.ref (a 20), .int p1] r u) (hrc_X7_readToClose : (Rf_X7_readToClose ≤ Rf ∧ Rl_X7_readToClose ≤ Rl) ∧ ∀ (σ : St) (p1 : Int32) (r : Int32) (u : St), rc_X7_readToClose σ p1 = some (r, u) → ConI l g ts (WC ts a) yX7_readToClose cX7_readToClose 2 (some .boolean) (rk Rf_X7_readToClose Rl_X7_readToClose) σ [.ref (a 20), .int p1] r u) : ∀ (σ : St) (o0 : Nat) (x4 : Int32) (s0 : Int32) (H : Heap) (locs : List Loc) (ls : Array Slot), f_X7_readOperand_b146 rc_X7_readOperand rc_X7_readToClose σ o0 x4 s0 = some (r, σ') → va_P g classes (WC ts a σ) H → va_D A (WC ts a σ) → va_S A s.heap H locs → lawOk σ o0 → lv_has ls 5 [(4, .int x4)] → W p l e (rk (Rf + 4) (Rl + 111)) s m args below meth c H locs 0 0 Q (F0 m 146 ls [.int s0, .ref (a (48 + 4 * o0))]) := by
  have hx := C.1
  have hb := C.2.1
  have hown := C.2.2.2.1
  have hts := C.2.2.2.2.1
  intro σ o0 x4 s0 H locs ls hf hP hD hS ho0 hl
  rw [f_X7_readOperand_b146] at hf
  obtain ⟨σ28, h27, hf⟩ := bnd1_some hf
  refine vV [] C hP hD hS (c_X4_emit ho0 h27) mv_X4_emit q_547 (rv_X4 ho0) dX7_readOperand_146 ⟨by show 0 + 1 ≤ _ + _; omega, by show 8 + (2 + 11) + 0 ≤ _ + _; omega⟩ ⟨Nat.zero_le _, Nat.zero_le _⟩ rfl rfl (Nat.le_of_ble_eq_true rfl) hl.1 (fun H locs hP hD hS => ?_)
  refine lv_iload hx hb dX7_readOperand_149 (lv_at hl 0 rfl) ?_
  exact retI hQ hf dX7_readOperand_151 hP hD hS
set_option maxHeartbeats 4000000 in
set_option maxRecDepth 100000 in
theorem w_X7_readOperand_b96 {p : Program} {l : Launch} {e : Env} {s : State} {m : MethodId} {args : Array Value} {below : List Frame} {meth : Method} {c : Code} {g : va_G} {ts : ClassId × ClassId × ClassId} {A : Nat → Prop} {Q : State → Prop} {a : Nat → Nat} {r : Int32} {σ' : St} {Rf Rl : Nat} {Rf_X7_readOperand Rl_X7_readOperand : Nat} {Rf_X7_readToClose Rl_X7_readToClose : Nat} {rc_X7_readOperand : St → Int32 → Option (Int32 × St)} {rc_X7_readToClose : St → Int32 → Option (Int32 × St)} (C : FX p s m args meth c RX7 cX7_readOperand 5 g ts A) (hQ : RetI p l e (rk (Rf + 4) (Rl + 111)) s m args below meth c cX7_readOperand g (WC ts a) A r σ' Q) (hrc_X7_readOperand : (Rf_X7_readOperand ≤ Rf ∧ Rl_X7_readOperand ≤ Rl) ∧ ∀ (σ : St) (p1 : Int32) (r : Int32) (u : St), rc_X7_readOperand σ p1 = some (r, u) → ConI l g ts (WC ts a) yX7_readOperand cX7_readOperand 5 (some .boolean) (rk Rf_X7_readOperand Rl_X7_readOperand) σ [.ref (a 20), .int p1] r u) (hrc_X7_readToClose : (Rf_X7_readToClose ≤ Rf ∧ Rl_X7_readToClose ≤ Rl) ∧ ∀ (σ : St) (p1 : Int32) (r : Int32) (u : St), rc_X7_readToClose σ p1 = some (r, u) → ConI l g ts (WC ts a) yX7_readToClose cX7_readToClose 2 (some .boolean) (rk Rf_X7_readToClose Rl_X7_readToClose) σ [.ref (a 20), .int p1] r u) : ∀ (σ : St) (x1 : Int32) (x2 : Int32) (H : Heap) (locs : List Loc) (ls : Array Slot), f_X7_readOperand_b96 rc_X7_readOperand rc_X7_readToClose σ x1 x2 = some (r, σ') → va_P g classes (WC ts a σ) H → va_D A (WC ts a σ) → va_S A s.heap H locs → lv_has ls 5 [(0, .ref (a 20)), (1, .int x1), (2, .int x2)] → W p l e (rk (Rf + 4) (Rl + 111)) s m args below meth c H locs 0 0 Q (F0 m 96 ls []) := by
  have hx := C.1
  have hb := C.2.1
  have hown := C.2.2.2.1
  have hts := C.2.2.2.2.1
  intro σ x1 x2 H locs ls hf hP hD hS hl
  rw [f_X7_readOperand_b96] at hf
  refine lv_aload_n hx hb dX7_readOperand_96 rfl (lv_at hl 0 rfl) ?_
  refine lv_dup hx hb dX7_readOperand_97 rfl ?_
  refine G_X7_at C hP q_248 dX7_readOperand_98 ?_
  refine lv_iconst (v := 1) hx hb dX7_readOperand_101 (by decide) ?_
  refine lv_iadd hx hb dX7_readOperand_102 ?_
  refine S_X7_at C hP hD hS q_248 dX7_readOperand_103 (fun H locs hP hD hS => ?_)
  refine lv_iload_n hx hb dX7_readOperand_106 rfl (lv_at hl 2 rfl) ?_
  refine lv_bipush (v := 40) hx hb dX7_readOperand_107 (by decide) ?_
  refine lv_icmp_ne (tgt := 120) hx hb dX7_readOperand_109 (by decide) (fun c18 => ?_) (fun c18 => ?_)
  · replace hf := ineg c18 hf
    refine lv_aload_n hx hb dX7_readOperand_120 rfl (lv_at hl 0 rfl) ?_
    refine lv_iload_n hx hb dX7_readOperand_121 rfl (lv_at hl 1 rfl) ?_
    refine lv_iconst (v := 1) hx hb dX7_readOperand_122 (by decide) ?_
    refine lv_iadd hx hb dX7_readOperand_123 ?_
    obtain ⟨r20, σ21, h19, hf⟩ := bnd2_some hf
    refine vI [] C hP hD hS (hrc_X7_readOperand.2 _ _ _ _  h19) mv_X7_readOperand q_536 rv_X7 dX7_readOperand_124 ⟨by have hz := hrc_X7_readOperand.1; show Rf_X7_readOperand + 1 ≤ Rf + _; omega, by have hz := hrc_X7_readOperand.1; show 8 + (5 + 11) + Rl_X7_readOperand ≤ Rl + _; omega⟩ ⟨Nat.zero_le _, Nat.zero_le _⟩ rfl rfl (Nat.le_of_ble_eq_true rfl) hl.1 (fun H locs hP hD hS => ?_)
    refine lv_istore (lv' := [(4, .int r20), (0, .ref (a 20)), (1, .int x1), (2, .int x2)]) hx hb dX7_readOperand_127 hl (by decide) rfl (fun ls hl => ?_)
    refine lv_aload_n hx hb dX7_readOperand_129 rfl (lv_at hl 1 rfl) ?_
    refine G_X7_law C hP q_249 dX7_readOperand_130 ?_
    obtain ⟨j22, ej22, fj22, hf⟩ := derefL_some hf
    rw [lawv_s ej22]
    refine lv_iload_n hx hb dX7_readOperand_133 rfl (lv_at hl 3 rfl) ?_
    refine lv_bipush (v := 45) hx hb dX7_readOperand_134 (by decide) ?_
    refine lv_icmp_ne (tgt := 144) hx hb dX7_readOperand_136 (by decide) (fun c23 => ?_) (fun c23 => ?_)
    · replace hf := ineg c23 hf
      refine lv_bipush (v := -33) hx hb dX7_readOperand_144 (by decide) ?_
      exact w_X7_readOperand_b146 C hQ hrc_X7_readOperand hrc_X7_readToClose _ _ _ _ _ _ _ hf hP hD hS fj22 (lv_sub hl [0] rfl)
    · replace hf := ipos c23 hf
      refine lv_bipush (v := -126) hx hb dX7_readOperand_139 (by decide) ?_
      refine lv_goto (tgt := 146) hx hb dX7_readOperand_141 (by decide) ?_
      exact w_X7_readOperand_b146 C hQ hrc_X7_readOperand hrc_X7_readToClose _ _ _ _ _ _ _ hf hP hD hS fj22 (lv_sub hl [0] rfl)
  · replace hf := ipos c18 hf
    refine lv_aload_n hx hb dX7_readOperand_112 rfl (lv_at hl 0 rfl) ?_
    refine lv_iload_n hx hb dX7_readOperand_113 rfl (lv_at hl 1 rfl) ?_
    refine lv_iconst (v := 1) hx hb dX7_readOperand_114 (by decide) ?_
    refine lv_iadd hx hb dX7_readOperand_115 ?_
    obtain ⟨r25, σ26, h24, hf⟩ := bnd2_some hf
    refine vI [] C hP hD hS (hrc_X7_readToClose.2 _ _ _ _  h24) mv_X7_readToClose q_638 rv_X7 dX7_readOperand_116 ⟨by have hz := hrc_X7_readToClose.1; show Rf_X7_readToClose + 1 ≤ Rf + _; omega, by have hz := hrc_X7_readToClose.1; show 8 + (2 + 11) + Rl_X7_readToClose ≤ Rl + _; omega⟩ ⟨Nat.zero_le _, Nat.zero_le _⟩ rfl rfl (Nat.le_of_ble_eq_true rfl) hl.1 (fun H locs hP hD hS => ?_)
    exact retI hQ hf dX7_readOperand_119 hP hD hS
set_option maxHeartbeats 4000000 in
set_option maxRecDepth 100000 in
theorem c_X7_readOperand1 {l : Launch} {g : va_G} {ts : ClassId × ClassId × ClassId} {a : Nat → Nat} {σ : St} {p1 : Int32} {r : Int32} {σ' : St} {Rf Rl : Nat} {Rf_X7_readOperand Rl_X7_readOperand : Nat} {Rf_X7_readToClose Rl_X7_readToClose : Nat} {rc_X7_readOperand : St → Int32 → Option (Int32 × St)} {rc_X7_readToClose : St → Int32 → Option (Int32 × St)} (hrc_X7_readOperand : (Rf_X7_readOperand ≤ Rf ∧ Rl_X7_readOperand ≤ Rl) ∧ ∀ (σ : St) (p1 : Int32) (r : Int32) (u : St), rc_X7_readOperand σ p1 = some (r, u) → ConI l g ts (WC ts a) yX7_readOperand cX7_readOperand 5 (some .boolean) (rk Rf_X7_readOperand Rl_X7_readOperand) σ [.ref (a 20), .int p1] r u) (hrc_X7_readToClose : (Rf_X7_readToClose ≤ Rf ∧ Rl_X7_readToClose ≤ Rl) ∧ ∀ (σ : St) (p1 : Int32) (r : Int32) (u : St), rc_X7_readToClose σ p1 = some (r, u) → ConI l g ts (WC ts a) yX7_readToClose cX7_readToClose 2 (some .boolean) (rk Rf_X7_readToClose Rl_X7_readToClose) σ [.ref (a 20), .int p1] r u) (hf : f_X7_readOperand1 rc_X7_readOperand rc_X7_readToClose σ p1 = some (r, σ')) : ConI l g ts (WC ts a) yX7_readOperand cX7_readOperand 5 (some .boolean) (rk (Rf + 4) (Rl + 111)) σ [.ref (a 20), .int p1] r σ' := by
  rw [f_X7_readOperand1] at hf
  obtain ⟨hf, hn⟩ := chkB_some hf
  refine ConI_mk .boolean rfl hn rfl rfl (by decide) (Nat.le_of_ble_eq_true rfl) ?_
  intro p e s m below meth c A Q ls C hQ hP hD hS hl
  have C : FX p s m _ meth c RX7 cX7_readOperand 5 g ts A := C
  have hx := C.1
  have hb := C.2.1
  have hown := C.2.2.2.1
  have hts := C.2.2.2.2.1
  have hl : lv_has ls 5 [(0, .ref (a 20)), (1, .int p1)] := hl
  rw [f_X7_readOperand10] at hf
  refine lv_aload_n hx hb dX7_readOperand_0 rfl (lv_at hl 0 rfl) ?_
  refine G_X7_at C hP q_248 dX7_readOperand_1 ?_
  refine lv_aload_n hx hb dX7_readOperand_4 rfl (lv_at hl 0 rfl) ?_
  refine G_X7_length C hP q_246 dX7_readOperand_5 ?_
  refine lv_icmp_lt (tgt := 13) hx hb dX7_readOperand_8 (by decide) (fun c1 => ?_) (fun c1 => ?_)
  · replace hf := ipos c1 hf
    refine lv_aload_n hx hb dX7_readOperand_13 rfl (lv_at hl 0 rfl) ?_
    refine G_X7_tape C hP q_245 dX7_readOperand_14 ?_
    refine lv_aload_n hx hb dX7_readOperand_17 rfl (lv_at hl 0 rfl) ?_
    refine G_X7_at C hP q_248 dX7_readOperand_18 ?_
    obtain ⟨h2, hf⟩ := chk_some hf
    refine AL_X7_tape C hP h2 dX7_readOperand_21 ?_
    refine lv_topi (fun v3 ev3 => ?_)
    replace hf := bnd_at ev3 hf
    refine lv_istore_n (lv' := [(2, .int v3), (0, .ref (a 20)), (1, .int p1)]) hx hb dX7_readOperand_22 rfl hl (by decide) rfl (fun ls hl => ?_)
    refine lv_iload_n hx hb dX7_readOperand_23 rfl (lv_at hl 0 rfl) ?_
    obtain ⟨r5, h4, hf⟩ := bnd1_some hf
    refine tI [] C hP hD hS (c_X7_isDigit h4) ms_X7_isDigit q_540 dX7_readOperand_24 ⟨by show 0 + 1 ≤ _ + _; omega, by show 8 + (1 + 11) + 0 ≤ _ + _; omega⟩ ⟨Nat.zero_le _, Nat.zero_le _⟩ rfl rfl (Nat.le_of_ble_eq_true rfl) hl.1 (fun H locs hP hD hS => ?_)
    refine lv_if_eq (tgt := 36) hx hb dX7_readOperand_27 (by decide) (fun c6 => ?_) (fun c6 => ?_)
    · replace hf := ipos c6 hf
      obtain ⟨adK, adV, hstr, hldc⟩ := C.2.2.2.2.2.2.2.2.2.2.2.2
      refine va_ldcS hx hb hown hldc dX7_readOperand_36 ?_
      refine lv_iload_n hx hb dX7_readOperand_38 rfl (lv_at hl 0 rfl) ?_
      refine lv_i2c (v := ((v3 : Int32).toUInt32 % 65536).toInt32) hx hb dX7_readOperand_39 rfl ?_
      refine sV [] C hP hD hS (StrP.of hstr) c_J0_indexOf_0f7a4 mv_J0_indexOf_0f7a4 rfl q_552 dX7_readOperand_40 ⟨by show 3 + 1 ≤ _ + _; omega, by show 8 + (2 + 11) + 90 ≤ _ + _; omega⟩ ⟨Nat.zero_le _, Nat.zero_le _⟩ rfl rfl (Nat.le_of_ble_eq_true rfl) hl.1 (fun H locs hP hD hS => ?_)
      refine lv_topi (fun v7 ev7 => ?_)
      replace hf := bnd_at ev7 hf
      refine lv_istore_n (lv' := [(3, .int v7), (2, .int v3), (0, .ref (a 20)), (1, .int p1)]) hx hb dX7_readOperand_43 rfl hl (by decide) rfl (fun ls hl => ?_)
      refine lv_iload_n hx hb dX7_readOperand_44 rfl (lv_at hl 0 rfl) ?_
      refine lv_if_lt (tgt := 70) hx hb dX7_readOperand_45 (by decide) (fun c8 => ?_) (fun c8 => ?_)
      · replace hf := ipos c8 hf
        refine lv_iload_n hx hb dX7_readOperand_70 rfl (lv_at hl 3 rfl) ?_
        refine lv_bipush (v := 6) hx hb dX7_readOperand_71 (by decide) ?_
        refine lv_icmp_ge (tgt := 94) hx hb dX7_readOperand_73 (by decide) (fun c9 => ?_) (fun c9 => ?_)
        · replace hf := ipos c9 hf
          refine lv_iconst (v := 0) hx hb dX7_readOperand_94 (by decide) ?_
          exact retI hQ hf dX7_readOperand_95 hP hD hS
        · replace hf := ineg c9 hf
          refine lv_iload_n hx hb dX7_readOperand_76 rfl (lv_at hl 1 rfl) ?_
          refine lv_bipush (v := 40) hx hb dX7_readOperand_77 (by decide) ?_
          refine lv_icmp_eq (tgt := 96) hx hb dX7_readOperand_79 (by decide) (fun c10 => ?_) (fun c10 => ?_)
          · replace hf := ipos c10 hf
            exact w_X7_readOperand_b96 C hQ hrc_X7_readOperand hrc_X7_readToClose _ _ _ _ _ _ hf hP hD hS (lv_sub hl [2, 3, 1] rfl)
          · replace hf := ineg c10 hf
            refine lv_iload_n hx hb dX7_readOperand_82 rfl (lv_at hl 1 rfl) ?_
            refine lv_bipush (v := 33) hx hb dX7_readOperand_83 (by decide) ?_
            refine lv_icmp_eq (tgt := 96) hx hb dX7_readOperand_85 (by decide) (fun c11 => ?_) (fun c11 => ?_)
            · replace hf := ipos c11 hf
              exact w_X7_readOperand_b96 C hQ hrc_X7_readOperand hrc_X7_readToClose _ _ _ _ _ _ hf hP hD hS (lv_sub hl [2, 3, 1] rfl)
            · replace hf := ineg c11 hf
              refine lv_iload_n hx hb dX7_readOperand_88 rfl (lv_at hl 1 rfl) ?_
              refine lv_bipush (v := 45) hx hb dX7_readOperand_89 (by decide) ?_
              refine lv_icmp_eq (tgt := 96) hx hb dX7_readOperand_91 (by decide) (fun c12 => ?_) (fun c12 => ?_)
              · replace hf := ipos c12 hf
                exact w_X7_readOperand_b96 C hQ hrc_X7_readOperand hrc_X7_readToClose _ _ _ _ _ _ hf hP hD hS (lv_sub hl [2, 3, 1] rfl)
              · replace hf := ineg c12 hf
                refine lv_iconst (v := 0) hx hb dX7_readOperand_94 (by decide) ?_
                exact retI hQ hf dX7_readOperand_95 hP hD hS
      · replace hf := ineg c8 hf
        refine lv_aload_n hx hb dX7_readOperand_48 rfl (lv_at hl 2 rfl) ?_
        refine lv_dup hx hb dX7_readOperand_49 rfl ?_
        refine G_X7_at C hP q_248 dX7_readOperand_50 ?_
        refine lv_iconst (v := 1) hx hb dX7_readOperand_53 (by decide) ?_
        refine lv_iadd hx hb dX7_readOperand_54 ?_
        refine S_X7_at C hP hD hS q_248 dX7_readOperand_55 (fun H locs hP hD hS => ?_)
        refine lv_aload_n hx hb dX7_readOperand_58 rfl (lv_at hl 2 rfl) ?_
        refine G_X7_law C hP q_249 dX7_readOperand_59 ?_
        obtain ⟨j13, ej13, fj13, hf⟩ := derefL_some hf
        rw [lawv_s ej13]
        refine lv_iconst (v := -1) hx hb dX7_readOperand_62 (by decide) ?_
        refine lv_iload_n hx hb dX7_readOperand_63 rfl (lv_at hl 0 rfl) ?_
        refine lv_isub hx hb dX7_readOperand_64 ?_
        obtain ⟨σ15, h14, hf⟩ := bnd1_some hf
        refine vV [] C hP hD hS (c_X4_emit fj13 h14) mv_X4_emit q_547 (rv_X4 fj13) dX7_readOperand_65 ⟨by show 0 + 1 ≤ _ + _; omega, by show 8 + (2 + 11) + 0 ≤ _ + _; omega⟩ ⟨Nat.zero_le _, Nat.zero_le _⟩ rfl rfl (Nat.le_of_ble_eq_true rfl) hl.1 (fun H locs hP hD hS => ?_)
        refine lv_iconst (v := 1) hx hb dX7_readOperand_68 (by decide) ?_
        exact retI hQ hf dX7_readOperand_69 hP hD hS
    · replace hf := ineg c6 hf
      refine lv_aload_n hx hb dX7_readOperand_30 rfl (lv_at hl 1 rfl) ?_
      obtain ⟨σ17, h16, hf⟩ := bnd1_some hf
      refine vV [] C hP hD hS (c_X7_readNumber h16) mv_X7_readNumber q_543 rv_X7 dX7_readOperand_31 ⟨by show 1 + 1 ≤ _ + _; omega, by show 8 + (3 + 11) + 21 ≤ _ + _; omega⟩ ⟨Nat.zero_le _, Nat.zero_le _⟩ rfl rfl (Nat.le_of_ble_eq_true rfl) hl.1 (fun H locs hP hD hS => ?_)
      refine lv_iconst (v := 1) hx hb dX7_readOperand_34 (by decide) ?_
      exact retI hQ hf dX7_readOperand_35 hP hD hS
  · replace hf := ineg c1 hf
    refine lv_iconst (v := 0) hx hb dX7_readOperand_11 (by decide) ?_
    exact retI hQ hf dX7_readOperand_12 hP hD hS
theorem dX7_readToClose_0 : decode cX7_readToClose 0 = .ok (.aload_n 0, 1) := by decide +kernel
theorem dX7_readToClose_1 : decode cX7_readToClose 1 = .ok (.iconst 0, 1) := by decide +kernel
theorem dX7_readToClose_2 : decode cX7_readToClose 2 = .ok (.iload_n 1, 1) := by decide +kernel
theorem dX7_readToClose_3 : decode cX7_readToClose 3 = .ok (.invokevirtual 37, 3) := by decide +kernel
theorem dX7_readToClose_6 : decode cX7_readToClose 6 = .ok (.ifCond .eq 12, 3) := by decide +kernel
theorem dX7_readToClose_9 : decode cX7_readToClose 9 = .ok (.aload_n 0, 1) := by decide +kernel
theorem dX7_readToClose_10 : decode cX7_readToClose 10 = .ok (.bipush 41, 2) := by decide +kernel
theorem dX7_readToClose_12 : decode cX7_readToClose 12 = .ok (.invokevirtual 33, 3) := by decide +kernel
theorem dX7_readToClose_15 : decode cX7_readToClose 15 = .ok (.ifCond .ne 5, 3) := by decide +kernel
theorem dX7_readToClose_18 : decode cX7_readToClose 18 = .ok (.iconst 0, 1) := by decide +kernel
theorem dX7_readToClose_19 : decode cX7_readToClose 19 = .ok (.ireturn, 1) := by decide +kernel
theorem dX7_readToClose_20 : decode cX7_readToClose 20 = .ok (.aload_n 0, 1) := by decide +kernel
theorem dX7_readToClose_21 : decode cX7_readToClose 21 = .ok (.dup, 1) := by decide +kernel
theorem dX7_readToClose_22 : decode cX7_readToClose 22 = .ok (.getfield 26, 3) := by decide +kernel
theorem dX7_readToClose_25 : decode cX7_readToClose 25 = .ok (.iconst 1, 1) := by decide +kernel
theorem dX7_readToClose_26 : decode cX7_readToClose 26 = .ok (.iadd, 1) := by decide +kernel
theorem dX7_readToClose_27 : decode cX7_readToClose 27 = .ok (.putfield 26, 3) := by decide +kernel
theorem dX7_readToClose_30 : decode cX7_readToClose 30 = .ok (.iconst 1, 1) := by decide +kernel
theorem dX7_readToClose_31 : decode cX7_readToClose 31 = .ok (.ireturn, 1) := by decide +kernel
def f_X7_readToClose10 (rc_X7_readRank : St → Int32 → Int32 → Option (Int32 × St)) (σ : St) (p1 : Int32) : Option (Int32 × St) := bnd2 (rc_X7_readRank σ (0 : Int32) p1) (fun r2 σ3 => if r2 = 0 then (some ((0 : Int32), σ3)) else (bnd2 (f_X7_isAt σ3 (41 : Int32)) (fun r6 σ7 => if r6 = 0 then (some ((0 : Int32), σ7)) else (some ((1 : Int32), sI σ7 352 0 ((σ7.1 352 0) + (1 : Int32)))))))
def f_X7_readToClose1 (rc_X7_readRank : St → Int32 → Int32 → Option (Int32 × St)) (σ : St) (p1 : Int32) : Option (Int32 × St) := chkB (f_X7_readToClose10 rc_X7_readRank σ p1)
set_option maxHeartbeats 4000000 in
set_option maxRecDepth 100000 in
theorem c_X7_readToClose1 {l : Launch} {g : va_G} {ts : ClassId × ClassId × ClassId} {a : Nat → Nat} {σ : St} {p1 : Int32} {r : Int32} {σ' : St} {Rf Rl : Nat} {Rf_X7_readRank Rl_X7_readRank : Nat} {rc_X7_readRank : St → Int32 → Int32 → Option (Int32 × St)} (hrc_X7_readRank : (Rf_X7_readRank ≤ Rf ∧ Rl_X7_readRank ≤ Rl) ∧ ∀ (σ : St) (p1 : Int32) (p2 : Int32) (r : Int32) (u : St), rc_X7_readRank σ p1 p2 = some (r, u) → ConI l g ts (WC ts a) yX7_readRank cX7_readRank 7 (some .boolean) (rk Rf_X7_readRank Rl_X7_readRank) σ [.ref (a 20), .int p1, .int p2] r u) (hf : f_X7_readToClose1 rc_X7_readRank σ p1 = some (r, σ')) : ConI l g ts (WC ts a) yX7_readToClose cX7_readToClose 2 (some .boolean) (rk (Rf + 4) (Rl + 111)) σ [.ref (a 20), .int p1] r σ' := by
  rw [f_X7_readToClose1] at hf
  obtain ⟨hf, hn⟩ := chkB_some hf
  refine ConI_mk .boolean rfl hn rfl rfl (by decide) (Nat.le_of_ble_eq_true rfl) ?_
  intro p e s m below meth c A Q ls C hQ hP hD hS hl
  have C : FX p s m _ meth c RX7 cX7_readToClose 2 g ts A := C
  have hx := C.1
  have hb := C.2.1
  have hown := C.2.2.2.1
  have hts := C.2.2.2.2.1
  have hl : lv_has ls 2 [(0, .ref (a 20)), (1, .int p1)] := hl
  rw [f_X7_readToClose10] at hf
  refine lv_aload_n hx hb dX7_readToClose_0 rfl (lv_at hl 0 rfl) ?_
  refine lv_iconst (v := 0) hx hb dX7_readToClose_1 (by decide) ?_
  refine lv_iload_n hx hb dX7_readToClose_2 rfl (lv_at hl 1 rfl) ?_
  obtain ⟨r2, σ3, h1, hf⟩ := bnd2_some hf
  refine vI [] C hP hD hS (hrc_X7_readRank.2 _ _ _ _ _  h1) mv_X7_readRank q_532 rv_X7 dX7_readToClose_3 ⟨by have hz := hrc_X7_readRank.1; show Rf_X7_readRank + 1 ≤ Rf + _; omega, by have hz := hrc_X7_readRank.1; show 8 + (7 + 11) + Rl_X7_readRank ≤ Rl + _; omega⟩ ⟨Nat.zero_le _, Nat.zero_le _⟩ rfl rfl (Nat.le_of_ble_eq_true rfl) hl.1 (fun H locs hP hD hS => ?_)
  refine lv_if_eq (tgt := 18) hx hb dX7_readToClose_6 (by decide) (fun c4 => ?_) (fun c4 => ?_)
  · replace hf := ipos c4 hf
    refine lv_iconst (v := 0) hx hb dX7_readToClose_18 (by decide) ?_
    exact retI hQ hf dX7_readToClose_19 hP hD hS
  · replace hf := ineg c4 hf
    refine lv_aload_n hx hb dX7_readToClose_9 rfl (lv_at hl 0 rfl) ?_
    refine lv_bipush (v := 41) hx hb dX7_readToClose_10 (by decide) ?_
    obtain ⟨r6, σ7, h5, hf⟩ := bnd2_some hf
    refine vI [] C hP hD hS (c_X7_isAt h5) mv_X7_isAt q_642 rv_X7 dX7_readToClose_12 ⟨by show 0 + 1 ≤ _ + _; omega, by show 8 + (2 + 11) + 0 ≤ _ + _; omega⟩ ⟨Nat.zero_le _, Nat.zero_le _⟩ rfl rfl (Nat.le_of_ble_eq_true rfl) hl.1 (fun H locs hP hD hS => ?_)
    refine lv_if_ne (tgt := 20) hx hb dX7_readToClose_15 (by decide) (fun c8 => ?_) (fun c8 => ?_)
    · replace hf := ineg c8 hf
      refine lv_aload_n hx hb dX7_readToClose_20 rfl (lv_at hl 0 rfl) ?_
      refine lv_dup hx hb dX7_readToClose_21 rfl ?_
      refine G_X7_at C hP q_248 dX7_readToClose_22 ?_
      refine lv_iconst (v := 1) hx hb dX7_readToClose_25 (by decide) ?_
      refine lv_iadd hx hb dX7_readToClose_26 ?_
      refine S_X7_at C hP hD hS q_248 dX7_readToClose_27 (fun H locs hP hD hS => ?_)
      refine lv_iconst (v := 1) hx hb dX7_readToClose_30 (by decide) ?_
      exact retI hQ hf dX7_readToClose_31 hP hD hS
    · replace hf := ipos c8 hf
      refine lv_iconst (v := 0) hx hb dX7_readToClose_18 (by decide) ?_
      exact retI hQ hf dX7_readToClose_19 hP hD hS
def rdG : Nat → (St → Int32 → Int32 → Option (Int32 × St)) × (St → Int32 → Option (Int32 × St)) × (St → Int32 → Option (Int32 × St))
  | 0 => (fun _ _ _ => none, fun _ _ => none, fun _ _ => none)
  | n + 1 => (f_X7_readRank1 (rdG n).1 (rdG n).2.1, f_X7_readOperand1 (rdG n).2.1 (rdG n).2.2, f_X7_readToClose1 (rdG n).1)
theorem rdG_ok {l : Launch} {g : va_G} {ts : ClassId × ClassId × ClassId} {a : Nat → Nat} : ∀ n : Nat, (∀ (σ : St) (p1 : Int32) (p2 : Int32) (r : Int32) (u : St), (rdG n).1 σ p1 p2 = some (r, u) → ConI l g ts (WC ts a) yX7_readRank cX7_readRank 7 (some .boolean) (rk (4 * n) (111 * n)) σ [.ref (a 20), .int p1, .int p2] r u) ∧ (∀ (σ : St) (p1 : Int32) (r : Int32) (u : St), (rdG n).2.1 σ p1 = some (r, u) → ConI l g ts (WC ts a) yX7_readOperand cX7_readOperand 5 (some .boolean) (rk (4 * n) (111 * n)) σ [.ref (a 20), .int p1] r u) ∧ (∀ (σ : St) (p1 : Int32) (r : Int32) (u : St), (rdG n).2.2 σ p1 = some (r, u) → ConI l g ts (WC ts a) yX7_readToClose cX7_readToClose 2 (some .boolean) (rk (4 * n) (111 * n)) σ [.ref (a 20), .int p1] r u) := by
  intro n
  induction n with
  | zero => exact ⟨(fun _ _ _ _ _ hf => (by cases hf)), (fun _ _ _ _ hf => (by cases hf)), (fun _ _ _ _ hf => (by cases hf))⟩
  | succ n ih =>
    exact ⟨(fun _ _ _ _ _ hf => c_X7_readRank1 (Rf := 4 * n) (Rl := 111 * n) (Rf_X7_readRank := 4 * n) (Rl_X7_readRank := 111 * n) (Rf_X7_readOperand := 4 * n) (Rl_X7_readOperand := 111 * n) ⟨⟨Nat.le_refl _, Nat.le_refl _⟩, ih.1⟩ ⟨⟨Nat.le_refl _, Nat.le_refl _⟩, ih.2.1⟩ hf), (fun _ _ _ _ hf => c_X7_readOperand1 (Rf := 4 * n) (Rl := 111 * n) (Rf_X7_readOperand := 4 * n) (Rl_X7_readOperand := 111 * n) (Rf_X7_readToClose := 4 * n) (Rl_X7_readToClose := 111 * n) ⟨⟨Nat.le_refl _, Nat.le_refl _⟩, ih.2.1⟩ ⟨⟨Nat.le_refl _, Nat.le_refl _⟩, ih.2.2⟩ hf), (fun _ _ _ _ hf => c_X7_readToClose1 (Rf := 4 * n) (Rl := 111 * n) (Rf_X7_readRank := 4 * n) (Rl_X7_readRank := 111 * n) ⟨⟨Nat.le_refl _, Nat.le_refl _⟩, ih.1⟩ hf)⟩
def f_X7_readRank (σ : St) (p1 : Int32) (p2 : Int32) : Option (Int32 × St) := (rdG 70).1 σ p1 p2
theorem c_X7_readRank {l : Launch} {g : va_G} {ts : ClassId × ClassId × ClassId} {a : Nat → Nat} {σ : St} {p1 : Int32} {p2 : Int32} {r : Int32} {u : St} (hf : f_X7_readRank σ p1 p2 = some (r, u)) : ConI l g ts (WC ts a) yX7_readRank cX7_readRank 7 (some .boolean) (rk 280 7770) σ [.ref (a 20), .int p1, .int p2] r u := (rdG_ok 70).1 σ p1 p2 r u hf
def f_X7_readOperand (σ : St) (p1 : Int32) : Option (Int32 × St) := (rdG 70).2.1 σ p1
theorem c_X7_readOperand {l : Launch} {g : va_G} {ts : ClassId × ClassId × ClassId} {a : Nat → Nat} {σ : St} {p1 : Int32} {r : Int32} {u : St} (hf : f_X7_readOperand σ p1 = some (r, u)) : ConI l g ts (WC ts a) yX7_readOperand cX7_readOperand 5 (some .boolean) (rk 280 7770) σ [.ref (a 20), .int p1] r u := (rdG_ok 70).2.1 σ p1 r u hf
def f_X7_readToClose (σ : St) (p1 : Int32) : Option (Int32 × St) := (rdG 70).2.2 σ p1
theorem c_X7_readToClose {l : Launch} {g : va_G} {ts : ClassId × ClassId × ClassId} {a : Nat → Nat} {σ : St} {p1 : Int32} {r : Int32} {u : St} (hf : f_X7_readToClose σ p1 = some (r, u)) : ConI l g ts (WC ts a) yX7_readToClose cX7_readToClose 2 (some .boolean) (rk 280 7770) σ [.ref (a 20), .int p1] r u := (rdG_ok 70).2.2 σ p1 r u hf
