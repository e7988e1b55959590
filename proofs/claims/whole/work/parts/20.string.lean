theorem ms_J1_canEncode_9a6ad : MS yJ1_canEncode_9a6ad cJ1_canEncode_9a6ad 1 (some .boolean) 1 := ⟨q_578, q_73, q_579, by decide +kernel, by decide +kernel, by decide +kernel⟩
theorem dJ1_canEncode_9a6ad_0 : decode cJ1_canEncode_9a6ad 0 = .ok (.iload_n 0, 1) := by decide +kernel
theorem dJ1_canEncode_9a6ad_1 : decode cJ1_canEncode_9a6ad 1 = .ok (.ifCond .lt 14, 3) := by decide +kernel
theorem dJ1_canEncode_9a6ad_4 : decode cJ1_canEncode_9a6ad 4 = .ok (.iload_n 0, 1) := by decide +kernel
theorem dJ1_canEncode_9a6ad_5 : decode cJ1_canEncode_9a6ad 5 = .ok (.sipush 255, 3) := by decide +kernel
theorem dJ1_canEncode_9a6ad_8 : decode cJ1_canEncode_9a6ad 8 = .ok (.if_icmp .gt 7, 3) := by decide +kernel
theorem dJ1_canEncode_9a6ad_11 : decode cJ1_canEncode_9a6ad 11 = .ok (.iconst 1, 1) := by decide +kernel
theorem dJ1_canEncode_9a6ad_12 : decode cJ1_canEncode_9a6ad 12 = .ok (.goto 4, 3) := by decide +kernel
theorem dJ1_canEncode_9a6ad_15 : decode cJ1_canEncode_9a6ad 15 = .ok (.iconst 0, 1) := by decide +kernel
theorem dJ1_canEncode_9a6ad_16 : decode cJ1_canEncode_9a6ad 16 = .ok (.ireturn, 1) := by decide +kernel
def f_J1_canEncode_9a6ad0 (p1 : Int32) : Option Int32 := if p1 < 0 then (some (0 : Int32)) else (if (255 : Int32) < p1 then (some (0 : Int32)) else (some (1 : Int32)))
def f_J1_canEncode_9a6ad (p1 : Int32) : Option Int32 := chkB1 (f_J1_canEncode_9a6ad0 p1)
set_option maxHeartbeats 4000000 in
set_option maxRecDepth 100000 in
theorem c_J1_canEncode_9a6ad {l : Launch} {g : va_G} {ts : ClassId × ClassId × ClassId} {wf : St → va_W} {σ : St} {p1 : Int32} {r : Int32} (hf : f_J1_canEncode_9a6ad p1 = some r) : ConI l g ts (wf) yJ1_canEncode_9a6ad cJ1_canEncode_9a6ad 1 (some .boolean) (rk 0 0) σ [.int p1] r σ := by
  rw [f_J1_canEncode_9a6ad] at hf
  obtain ⟨hf, hn⟩ := chkB1_some hf
  refine ConI_mk .boolean rfl hn rfl rfl (by decide) (Nat.le_of_ble_eq_true rfl) ?_
  intro p e s m below meth c A Q ls C hQ hP hD hS hl
  have C : FX p s m _ meth c RJ1 cJ1_canEncode_9a6ad 1 g ts A := C
  have hx := C.1
  have hb := C.2.1
  have hown := C.2.2.2.1
  have hts := C.2.2.2.2.1
  have hl : lv_has ls 1 [(0, .int p1)] := hl
  rw [f_J1_canEncode_9a6ad0] at hf
  refine lv_iload_n hx hb dJ1_canEncode_9a6ad_0 rfl (lv_at hl 0 rfl) ?_
  refine lv_if_lt (tgt := 15) hx hb dJ1_canEncode_9a6ad_1 (by decide) (fun c1 => ?_) (fun c1 => ?_)
  · replace hf := ipos c1 hf
    refine lv_iconst (v := 0) hx hb dJ1_canEncode_9a6ad_15 (by decide) ?_
    exact retIp hQ hf dJ1_canEncode_9a6ad_16 hP hD hS
  · replace hf := ineg c1 hf
    refine lv_iload_n hx hb dJ1_canEncode_9a6ad_4 rfl (lv_at hl 0 rfl) ?_
    refine lv_sipush (v := 255) hx hb dJ1_canEncode_9a6ad_5 (by decide) ?_
    refine lv_icmp_gt (tgt := 15) hx hb dJ1_canEncode_9a6ad_8 (by decide) (fun c2 => ?_) (fun c2 => ?_)
    · replace hf := ipos c2 hf
      refine lv_iconst (v := 0) hx hb dJ1_canEncode_9a6ad_15 (by decide) ?_
      exact retIp hQ hf dJ1_canEncode_9a6ad_16 hP hD hS
    · replace hf := ineg c2 hf
      refine lv_iconst (v := 1) hx hb dJ1_canEncode_9a6ad_11 (by decide) ?_
      refine lv_goto (tgt := 16) hx hb dJ1_canEncode_9a6ad_12 (by decide) ?_
      exact retIp hQ hf dJ1_canEncode_9a6ad_16 hP hD hS
theorem mv_J0_coder_7d493 : MV yJ0_coder_7d493 cJ0_coder_7d493 1 (some .byte) 0 := ⟨q_571, q_572, q_72, q_573, by decide +kernel, by decide +kernel, by decide +kernel⟩
theorem dJ0_coder_7d493_0 : decode cJ0_coder_7d493 0 = .ok (.getstatic 38, 3) := by decide +kernel
theorem dJ0_coder_7d493_3 : decode cJ0_coder_7d493 3 = .ok (.ifCond .eq 10, 3) := by decide +kernel
theorem dJ0_coder_7d493_6 : decode cJ0_coder_7d493 6 = .ok (.aload_n 0, 1) := by decide +kernel
theorem dJ0_coder_7d493_7 : decode cJ0_coder_7d493 7 = .ok (.getfield 15, 3) := by decide +kernel
theorem dJ0_coder_7d493_10 : decode cJ0_coder_7d493 10 = .ok (.goto 4, 3) := by decide +kernel
theorem dJ0_coder_7d493_13 : decode cJ0_coder_7d493 13 = .ok (.iconst 1, 1) := by decide +kernel
theorem dJ0_coder_7d493_14 : decode cJ0_coder_7d493 14 = .ok (.ireturn, 1) := by decide +kernel
theorem mv_J0_isLatin1_aae02 : MV yJ0_isLatin1_aae02 cJ0_isLatin1_aae02 1 (some .boolean) 0 := ⟨q_561, q_562, q_72, q_563, by decide +kernel, by decide +kernel, by decide +kernel⟩
theorem dJ0_isLatin1_aae02_0 : decode cJ0_isLatin1_aae02 0 = .ok (.getstatic 38, 3) := by decide +kernel
theorem dJ0_isLatin1_aae02_3 : decode cJ0_isLatin1_aae02 3 = .ok (.ifCond .eq 14, 3) := by decide +kernel
theorem dJ0_isLatin1_aae02_6 : decode cJ0_isLatin1_aae02 6 = .ok (.aload_n 0, 1) := by decide +kernel
theorem dJ0_isLatin1_aae02_7 : decode cJ0_isLatin1_aae02 7 = .ok (.getfield 15, 3) := by decide +kernel
theorem dJ0_isLatin1_aae02_10 : decode cJ0_isLatin1_aae02 10 = .ok (.ifCond .ne 7, 3) := by decide +kernel
theorem dJ0_isLatin1_aae02_13 : decode cJ0_isLatin1_aae02 13 = .ok (.iconst 1, 1) := by decide +kernel
theorem dJ0_isLatin1_aae02_14 : decode cJ0_isLatin1_aae02 14 = .ok (.goto 4, 3) := by decide +kernel
theorem dJ0_isLatin1_aae02_17 : decode cJ0_isLatin1_aae02 17 = .ok (.iconst 0, 1) := by decide +kernel
theorem dJ0_isLatin1_aae02_18 : decode cJ0_isLatin1_aae02 18 = .ok (.ireturn, 1) := by decide +kernel
theorem mv_J0_length_8abf5 : MV yJ0_length_8abf5 cJ0_length_8abf5 1 (some .int) 0 := ⟨q_567, q_568, q_72, q_569, by decide +kernel, by decide +kernel, by decide +kernel⟩
theorem dJ0_length_8abf5_0 : decode cJ0_length_8abf5 0 = .ok (.aload_n 0, 1) := by decide +kernel
theorem dJ0_length_8abf5_1 : decode cJ0_length_8abf5 1 = .ok (.getfield 9, 3) := by decide +kernel
theorem dJ0_length_8abf5_4 : decode cJ0_length_8abf5 4 = .ok (.arraylength, 1) := by decide +kernel
theorem dJ0_length_8abf5_5 : decode cJ0_length_8abf5 5 = .ok (.aload_n 0, 1) := by decide +kernel
theorem dJ0_length_8abf5_6 : decode cJ0_length_8abf5 6 = .ok (.invokevirtual 335, 3) := by decide +kernel
theorem dJ0_length_8abf5_9 : decode cJ0_length_8abf5 9 = .ok (.ishr, 1) := by decide +kernel
theorem dJ0_length_8abf5_10 : decode cJ0_length_8abf5 10 = .ok (.ireturn, 1) := by decide +kernel
theorem mv_J0_indexOf_0f7a4 : MV yJ0_indexOf_0f7a4 cJ0_indexOf_0f7a4 2 (some .int) 1 := ⟨q_553, q_554, q_72, q_555, by decide +kernel, by decide +kernel, by decide +kernel⟩
theorem dJ0_indexOf_0f7a4_0 : decode cJ0_indexOf_0f7a4 0 = .ok (.aload_n 0, 1) := by decide +kernel
theorem dJ0_indexOf_0f7a4_1 : decode cJ0_indexOf_0f7a4 1 = .ok (.iload_n 1, 1) := by decide +kernel
theorem dJ0_indexOf_0f7a4_2 : decode cJ0_indexOf_0f7a4 2 = .ok (.iconst 0, 1) := by decide +kernel
theorem dJ0_indexOf_0f7a4_3 : decode cJ0_indexOf_0f7a4 3 = .ok (.invokevirtual 633, 3) := by decide +kernel
theorem dJ0_indexOf_0f7a4_6 : decode cJ0_indexOf_0f7a4 6 = .ok (.ireturn, 1) := by decide +kernel
theorem mv_J0_indexOf_7cf53 : MV yJ0_indexOf_7cf53 cJ0_indexOf_7cf53 3 (some .int) 2 := ⟨q_557, q_558, q_72, q_559, by decide +kernel, by decide +kernel, by decide +kernel⟩
theorem dJ0_indexOf_7cf53_0 : decode cJ0_indexOf_7cf53 0 = .ok (.aload_n 0, 1) := by decide +kernel
theorem dJ0_indexOf_7cf53_1 : decode cJ0_indexOf_7cf53 1 = .ok (.invokevirtual 492, 3) := by decide +kernel
theorem dJ0_indexOf_7cf53_4 : decode cJ0_indexOf_7cf53 4 = .ok (.ifCond .eq 19, 3) := by decide +kernel
theorem dJ0_indexOf_7cf53_7 : decode cJ0_indexOf_7cf53 7 = .ok (.aload_n 0, 1) := by decide +kernel
theorem dJ0_indexOf_7cf53_8 : decode cJ0_indexOf_7cf53 8 = .ok (.getfield 9, 3) := by decide +kernel
theorem dJ0_indexOf_7cf53_11 : decode cJ0_indexOf_7cf53 11 = .ok (.iload_n 1, 1) := by decide +kernel
theorem dJ0_indexOf_7cf53_12 : decode cJ0_indexOf_7cf53 12 = .ok (.iload_n 2, 1) := by decide +kernel
theorem dJ0_indexOf_7cf53_13 : decode cJ0_indexOf_7cf53 13 = .ok (.aload_n 0, 1) := by decide +kernel
theorem dJ0_indexOf_7cf53_14 : decode cJ0_indexOf_7cf53 14 = .ok (.invokevirtual 505, 3) := by decide +kernel
theorem dJ0_indexOf_7cf53_17 : decode cJ0_indexOf_7cf53 17 = .ok (.invokestatic 637, 3) := by decide +kernel
theorem dJ0_indexOf_7cf53_20 : decode cJ0_indexOf_7cf53 20 = .ok (.goto 16, 3) := by decide +kernel
theorem dJ0_indexOf_7cf53_23 : decode cJ0_indexOf_7cf53 23 = .ok (.aload_n 0, 1) := by decide +kernel
theorem dJ0_indexOf_7cf53_24 : decode cJ0_indexOf_7cf53 24 = .ok (.getfield 9, 3) := by decide +kernel
theorem dJ0_indexOf_7cf53_27 : decode cJ0_indexOf_7cf53 27 = .ok (.iload_n 1, 1) := by decide +kernel
theorem dJ0_indexOf_7cf53_28 : decode cJ0_indexOf_7cf53 28 = .ok (.iload_n 2, 1) := by decide +kernel
theorem dJ0_indexOf_7cf53_29 : decode cJ0_indexOf_7cf53 29 = .ok (.aload_n 0, 1) := by decide +kernel
theorem dJ0_indexOf_7cf53_30 : decode cJ0_indexOf_7cf53 30 = .ok (.invokevirtual 505, 3) := by decide +kernel
theorem dJ0_indexOf_7cf53_33 : decode cJ0_indexOf_7cf53 33 = .ok (.invokestatic 640, 3) := by decide +kernel
theorem dJ0_indexOf_7cf53_36 : decode cJ0_indexOf_7cf53 36 = .ok (.ireturn, 1) := by decide +kernel
theorem ms_J1_indexOf_4cfef : MS yJ1_indexOf_4cfef cJ1_indexOf_4cfef 4 (some .int) 4 := ⟨q_575, q_73, q_576, by decide +kernel, by decide +kernel, by decide +kernel⟩
theorem dJ1_indexOf_4cfef_0 : decode cJ1_indexOf_4cfef 0 = .ok (.iload_n 1, 1) := by decide +kernel
theorem dJ1_indexOf_4cfef_1 : decode cJ1_indexOf_4cfef 1 = .ok (.invokestatic 88, 3) := by decide +kernel
theorem dJ1_indexOf_4cfef_4 : decode cJ1_indexOf_4cfef 4 = .ok (.ifCond .ne 5, 3) := by decide +kernel
theorem dJ1_indexOf_4cfef_7 : decode cJ1_indexOf_4cfef 7 = .ok (.iconst (-1), 1) := by decide +kernel
theorem dJ1_indexOf_4cfef_8 : decode cJ1_indexOf_4cfef 8 = .ok (.ireturn, 1) := by decide +kernel
theorem dJ1_indexOf_4cfef_9 : decode cJ1_indexOf_4cfef 9 = .ok (.iload_n 2, 1) := by decide +kernel
theorem dJ1_indexOf_4cfef_10 : decode cJ1_indexOf_4cfef 10 = .ok (.iconst 0, 1) := by decide +kernel
theorem dJ1_indexOf_4cfef_11 : decode cJ1_indexOf_4cfef 11 = .ok (.invokestatic 92, 3) := by decide +kernel
theorem dJ1_indexOf_4cfef_14 : decode cJ1_indexOf_4cfef 14 = .ok (.istore_n 2, 1) := by decide +kernel
theorem dJ1_indexOf_4cfef_15 : decode cJ1_indexOf_4cfef 15 = .ok (.iload_n 3, 1) := by decide +kernel
theorem dJ1_indexOf_4cfef_16 : decode cJ1_indexOf_4cfef 16 = .ok (.aload_n 0, 1) := by decide +kernel
theorem dJ1_indexOf_4cfef_17 : decode cJ1_indexOf_4cfef 17 = .ok (.arraylength, 1) := by decide +kernel
theorem dJ1_indexOf_4cfef_18 : decode cJ1_indexOf_4cfef 18 = .ok (.invokestatic 38, 3) := by decide +kernel
theorem dJ1_indexOf_4cfef_21 : decode cJ1_indexOf_4cfef 21 = .ok (.istore_n 3, 1) := by decide +kernel
theorem dJ1_indexOf_4cfef_22 : decode cJ1_indexOf_4cfef 22 = .ok (.iload_n 2, 1) := by decide +kernel
theorem dJ1_indexOf_4cfef_23 : decode cJ1_indexOf_4cfef 23 = .ok (.iload_n 3, 1) := by decide +kernel
theorem dJ1_indexOf_4cfef_24 : decode cJ1_indexOf_4cfef 24 = .ok (.if_icmp .lt 5, 3) := by decide +kernel
theorem dJ1_indexOf_4cfef_27 : decode cJ1_indexOf_4cfef 27 = .ok (.iconst (-1), 1) := by decide +kernel
theorem dJ1_indexOf_4cfef_28 : decode cJ1_indexOf_4cfef 28 = .ok (.ireturn, 1) := by decide +kernel
theorem dJ1_indexOf_4cfef_29 : decode cJ1_indexOf_4cfef 29 = .ok (.aload_n 0, 1) := by decide +kernel
theorem dJ1_indexOf_4cfef_30 : decode cJ1_indexOf_4cfef 30 = .ok (.iload_n 1, 1) := by decide +kernel
theorem dJ1_indexOf_4cfef_31 : decode cJ1_indexOf_4cfef 31 = .ok (.iload_n 2, 1) := by decide +kernel
theorem dJ1_indexOf_4cfef_32 : decode cJ1_indexOf_4cfef 32 = .ok (.iload_n 3, 1) := by decide +kernel
theorem dJ1_indexOf_4cfef_33 : decode cJ1_indexOf_4cfef 33 = .ok (.invokestatic 95, 3) := by decide +kernel
theorem dJ1_indexOf_4cfef_36 : decode cJ1_indexOf_4cfef 36 = .ok (.ireturn, 1) := by decide +kernel
theorem ms_J1_indexOfChar_4cfef : MS yJ1_indexOfChar_4cfef cJ1_indexOfChar_4cfef 6 (some .int) 4 := ⟨q_587, q_73, q_588, by decide +kernel, by decide +kernel, by decide +kernel⟩
theorem dJ1_indexOfChar_4cfef_0 : decode cJ1_indexOfChar_4cfef 0 = .ok (.iload_n 1, 1) := by decide +kernel
theorem dJ1_indexOfChar_4cfef_1 : decode cJ1_indexOfChar_4cfef 1 = .ok (.i2b, 1) := by decide +kernel
theorem dJ1_indexOfChar_4cfef_2 : decode cJ1_indexOfChar_4cfef 2 = .ok (.istore 4, 2) := by decide +kernel
theorem dJ1_indexOfChar_4cfef_4 : decode cJ1_indexOfChar_4cfef 4 = .ok (.iload_n 2, 1) := by decide +kernel
theorem dJ1_indexOfChar_4cfef_5 : decode cJ1_indexOfChar_4cfef 5 = .ok (.istore 5, 2) := by decide +kernel
theorem dJ1_indexOfChar_4cfef_7 : decode cJ1_indexOfChar_4cfef 7 = .ok (.iload 5, 2) := by decide +kernel
theorem dJ1_indexOfChar_4cfef_9 : decode cJ1_indexOfChar_4cfef 9 = .ok (.iload_n 3, 1) := by decide +kernel
theorem dJ1_indexOfChar_4cfef_10 : decode cJ1_indexOfChar_4cfef 10 = .ok (.if_icmp .ge 21, 3) := by decide +kernel
theorem dJ1_indexOfChar_4cfef_13 : decode cJ1_indexOfChar_4cfef 13 = .ok (.aload_n 0, 1) := by decide +kernel
theorem dJ1_indexOfChar_4cfef_14 : decode cJ1_indexOfChar_4cfef 14 = .ok (.iload 5, 2) := by decide +kernel
theorem dJ1_indexOfChar_4cfef_16 : decode cJ1_indexOfChar_4cfef 16 = .ok (.baload, 1) := by decide +kernel
theorem dJ1_indexOfChar_4cfef_17 : decode cJ1_indexOfChar_4cfef 17 = .ok (.iload 4, 2) := by decide +kernel
theorem dJ1_indexOfChar_4cfef_19 : decode cJ1_indexOfChar_4cfef 19 = .ok (.if_icmp .ne 6, 3) := by decide +kernel
theorem dJ1_indexOfChar_4cfef_22 : decode cJ1_indexOfChar_4cfef 22 = .ok (.iload 5, 2) := by decide +kernel
theorem dJ1_indexOfChar_4cfef_24 : decode cJ1_indexOfChar_4cfef 24 = .ok (.ireturn, 1) := by decide +kernel
theorem dJ1_indexOfChar_4cfef_25 : decode cJ1_indexOfChar_4cfef 25 = .ok (.iinc 5 1, 3) := by decide +kernel
theorem dJ1_indexOfChar_4cfef_28 : decode cJ1_indexOfChar_4cfef 28 = .ok (.goto (-21), 3) := by decide +kernel
theorem dJ1_indexOfChar_4cfef_31 : decode cJ1_indexOfChar_4cfef 31 = .ok (.iconst (-1), 1) := by decide +kernel
theorem dJ1_indexOfChar_4cfef_32 : decode cJ1_indexOfChar_4cfef 32 = .ok (.ireturn, 1) := by decide +kernel

def StrP (q v : Nat) (A : Nat → Prop) (U : State) (H : Heap) : Prop := vk_S 1 [6] [[97, 110, 101, 115, 104, 107]] (fun _ => q) (fun _ => v) A U H
theorem StrP.of {adK adV : Nat → Nat} {A : Nat → Prop} {U : State} {H : Heap} (h : vk_S 1 [6] [[97, 110, 101, 115, 104, 107]] adK adV A U H) : StrP (adK 0) (adV 0) A U H := by
  refine ⟨fun i hi => ?_, fun i j hi hj _ => by omega⟩
  have hi0 : i = 0 := by omega
  subst hi0
  exact h.1 0 (by decide)
def PreS2 (g : va_G) (ts : ClassId × ClassId × ClassId) (wf : St → va_W) (σ : St) (q v sz : Nat) : State → Prop := fun U => PreW g ts wf σ sz U ∧ StrP q v (va_A (wf σ) sz) U U.heap
def ConS (l : Launch) (g : va_G) (ts : ClassId × ClassId × ClassId) (wf : St → va_W) (y : MethodName) (cc : ByteArray) (nL : Nat) (ret : Option FieldType) (rm : Room) (σ : St) (q v : Nat) (av : List Value) (r : Int32) : Prop := rm.cells = 0 ∧ rm.slots = 0 ∧ ∀ sz, Met l y (.code y cc nL ret :: uw) rm (va_Pc av (PreS2 g ts wf σ q v sz)) (va_Qi (fun (r' : Int32) (u : St) => r' = r ∧ u = σ) (PostW g wf σ sz) (va_A (wf σ) sz)) 0 0 (va_A (wf σ) sz)
theorem ConS_mk {l : Launch} {g : va_G} {ts : ClassId × ClassId × ClassId} {wf : St → va_W} {y : MethodName} {cc : ByteArray} {nL : Nat} {ret : Option FieldType} {rm : Room} {σ : St} {q v : Nat} {av : List Value} {r : Int32} (ty : FieldType) (hret : ret = some ty) (hn : narrow ty (.int r) = .int r) (hc : rm.cells = 0) (hs : rm.slots = 0) (hy : plainName y.cls = true) (hlen : (lg_sl av).length ≤ nL)
    (body : ∀ (p : Program) (e : Env) (s : State) (m : MethodId) (below : List Frame) (meth : Method) (c : Code) (A : Nat → Prop) (Q : State → Prop) (ls : Array Slot), FX p s m av.toArray meth c y.cls cc nL g ts A → RetI p l e rm s m av.toArray below meth c cc g wf A r σ Q → va_P g classes (wf σ) s.heap → va_D A (wf σ) → va_S A s.heap s.heap [] → StrP q v A s s.heap → lv_has ls nL (lv_args 0 av) → W p l e rm s m av.toArray below meth c s.heap [] 0 0 Q (F0 m 0 ls [])) : ConS l g ts wf y cc nL ret rm σ q v av r := by
  refine ⟨hc, hs, fun sz => ?_⟩
  refine Met.ofW (cc := cc) (maxL := nL) (ret := ret) hy rfl ?_
  intro p e s m args below meth c s₁ B hml hv
  obtain ⟨rfl, ⟨rfl, hP, hD0, hE⟩, hT⟩ := hv
  have hl := lv_entry av (n := nL) hlen
  rw [lg_entry_eq]
  generalize (lg_sl av ++ List.replicate (nL - (lg_sl av).length) Slot.unset).toArray = ls at hl ⊢
  refine body p e s m below meth c (va_A (wf σ) s.heap.size) _ ls ⟨B.exec, B.bytes, hml, findClass_of_methodNamed B.named, fun w hw => atoms_spec B.pre w (List.mem_cons_of_mem _ hw), fun q h => Or.inr h, hE⟩ ?_ hP hD0.self va_S.rf hT hl
  intro H locs pc ls hd hP' hD' hS'
  exact W.zret B.exec B.bytes (B.returns.trans hret) hn (fun t ht hW => ⟨⟨r, σ, rfl, ⟨rfl, rfl⟩, by rw [ht]; exact hP', hD'⟩, hS'.F ht⟩) hS'.2.2 hd B.notSynchronized
section SCALL
variable {p : Program} {l : Launch} {e : Env} {R : Room} {s : State} {m : MethodId} {args : Array Value} {below : List Frame} {meth : Method} {c : Code} {H : Heap} {locs : List Loc} {cells slots : Nat} {Q : State → Prop}
variable {own : String} {cc : ByteArray} {nL : Nat} {g : va_G} {ts : ClassId × ClassId × ClassId} {A : Nat → Prop} {wf : St → va_W} {σ : St} {y : MethodName} {bytes : ByteArray} {maxL n index pc q v : Nat} {ret : Option FieldType} {rm : Room} {rest st0 As : List Value} {ls : Array Slot} {r : Int32}
theorem sc_pre (hE : EnvX g ts A s s.heap) (hP : va_P g classes (wf σ) H) (hD : va_D A (wf σ)) (hS : va_S A s.heap H locs) (hA : ∀ q, s.heap.size ≤ q → A q) (hT : StrP q v A s s.heap) (av : List Value) : ∀ U : State, U.heap = H → s.WarmedH U.vm → va_Pc av (PreS2 g ts wf σ q v H.size) av.toArray U := fun U hU hW => ⟨rfl, (cl_pre hE hP hD hS hA av U hU hW).2, by rw [hU]; exact (vk_S.moved hW.alike (vk_S.kept hT hS.2.1)).narrow (cl_free hD hS hA)⟩
theorem sc_blind (av : List Value) (sz : Nat) : FrameBlind (va_Pc av (PreS2 g ts wf σ q v sz)) := fun a U f mk z => ⟨z.1, ⟨z.2.1.1, z.2.1.2.1, z.2.1.2.2.1, z.2.1.2.2.2.calling⟩, vk_S.moved (u := U) (U := U.calling f mk a) (Vm.Alike.refl U.vm) z.2.2⟩
theorem sV (rest : List Value) (C : FX p s m args meth c own cc nL g ts A) (hP : va_P g classes (wf σ) H) (hD : va_D A (wf σ)) (hS : va_S A s.heap H locs) (hT : StrP q v A s s.heap) (hM : ConS l g ts wf y bytes maxL ret rm σ q v (.ref q :: As) r) (hY : MV y bytes maxL ret n) (hcl : y.cls = "java/lang/String") (hl : Cond.methodLink own index y ∈ uw) (hdg : decode cc pc = .ok (.invokevirtual index, 3)) (hR : rm.frames + 1 ≤ R.frames ∧ 8 + (maxL + 11) + rm.locals ≤ R.locals) (hcs : cells ≤ R.cells ∧ slots ≤ R.slots) (hn : As.length = n) (hstk : st0 = As.reverse ++ .ref q :: rest) (hcat : (rest.map fun v => v.category).sum ≤ 8) (hsz : ls.size = nL)
    (kk : ∀ (H1 : Heap) (locs1 : List Loc), va_P g classes (wf σ) H1 → va_D A (wf σ) → va_S A s.heap H1 locs1 → W p l e R s m args below meth c H1 locs1 cells slots Q (F0 m (pc + 3) ls (.int r :: rest))) : W p l e R s m args below meth c H locs cells slots Q (F0 m pc ls st0) := by
  have C0 := C
  obtain ⟨hx, hb, hml, hown, hts, hA, hE⟩ := C
  obtain ⟨m1, m2, m3, m4, d1, d2, d3⟩ := hY
  have hw : GoodIn uw (wsV own index y.cls y (.code y bytes maxL ret :: uw)) := cl_ws [.methodLink own index y, .instanceMethod y, .selects y.cls y y, .initialized y.cls] (fun w hw => by
    simp only [List.mem_cons, List.not_mem_nil, or_false] at hw
    rcases hw with rfl | rfl | rfl | rfl
    · exact hl
    · exact m1
    · exact m2
    · exact m3) m4
  refine cl_i (va_runV (As := As) (rest := rest) ⟨hx, hb, hml, hown, hts⟩ (hM.2.2 H.size) (cwV n hts hw rfl hM.1 hM.2.1 ⟨rfl, d1, d2, d3⟩ hR) ⟨sc_blind _ _, by rw [hcl]; exact vk_recv hT (i := 0) (by decide) hS, sc_pre hE hP hD hS hA hT (.ref q :: As)⟩ rfl hn hsz hstk (lv_room hcat) hdg hcs) hD hS C0 kk
theorem sT (rest : List Value) (C : FX p s m args meth c own cc nL g ts A) (hP : va_P g classes (wf σ) H) (hD : va_D A (wf σ)) (hS : va_S A s.heap H locs) (hT : StrP q v A s s.heap) (hM : ConS l g ts wf y bytes maxL ret rm σ q v As r) (hY : MS y bytes maxL ret n) (hl : Cond.methodLink own index y ∈ uw) (hdg : decode cc pc = .ok (.invokestatic index, 3)) (hR : rm.frames + 1 ≤ R.frames ∧ 8 + (maxL + 11) + rm.locals ≤ R.locals) (hcs : cells ≤ R.cells ∧ slots ≤ R.slots) (hn : As.length = n) (hstk : st0 = As.reverse ++ rest) (hcat : (rest.map fun v => v.category).sum ≤ 8) (hsz : ls.size = nL)
    (kk : ∀ (H1 : Heap) (locs1 : List Loc), va_P g classes (wf σ) H1 → va_D A (wf σ) → va_S A s.heap H1 locs1 → W p l e R s m args below meth c H1 locs1 cells slots Q (F0 m (pc + 3) ls (.int r :: rest))) : W p l e R s m args below meth c H locs cells slots Q (F0 m pc ls st0) := by
  have C0 := C
  obtain ⟨hx, hb, hml, hown, hts, hA, hE⟩ := C
  obtain ⟨m1, m3, m4, d1, d2, d3⟩ := hY
  exact cl_i (va_runS (As := As) (rest := rest) ⟨hx, hb, hml, hown, hts⟩ (hM.2.2 H.size) ⟨callB_of n hts (cl_ws [] (fun w hw => by cases hw) m4) rfl hM.1 hM.2.1 (hts _ m3) (hts _ hl) ⟨d1, d2, d3⟩ hR, hts _ m1⟩ ⟨sc_blind _ _, sc_pre hE hP hD hS hA hT As⟩ rfl hn hsz hstk (lv_room hcat) hdg hcs) hD hS C0 kk
end SCALL
set_option maxHeartbeats 4000000 in
theorem c_J0_coder_7d493 {l : Launch} {g : va_G} {ts : ClassId × ClassId × ClassId} {wf : St → va_W} {σ : St} {q v : Nat} : ConS l g ts wf yJ0_coder_7d493 cJ0_coder_7d493 1 (some .byte) (rk 0 0) σ q v [.ref q] (0) := by
  refine ConS_mk .byte rfl rfl rfl rfl (by decide) (Nat.le_of_ble_eq_true rfl) ?_
  intro p e s m below meth c A Q ls C hQ hP hD hS hT hl
  have C : FX p s m _ meth c RJ0 cJ0_coder_7d493 1 g ts A := C
  have hx := C.1
  have hb := C.2.1
  have hown := C.2.2.2.1
  have hts := C.2.2.2.2.1
  have hz := C.2.2.2.2.2.2.2.2.2.2.2.1
  have hT0 := hT.1 0 (by decide)
  have hl : lv_has ls 1 [(0, .ref q)] := hl
  refine va_gets hx hb hz hS hown (hts _ q_564) (fun _ h => h) dJ0_coder_7d493_0 ?_
  refine lv_if_eq (tgt := 13) hx hb dJ0_coder_7d493_3 (by decide) (fun c1 => absurd c1 (by decide)) (fun c1 => ?_)
  refine lv_aload_n hx hb dJ0_coder_7d493_6 rfl (lv_at hl 0 rfl) ?_
  refine vk_getf hx hb hT0.2.1 hS hown (hts _ q_1597) (fun _ h => h) dJ0_coder_7d493_7 ?_
  refine lv_goto (tgt := 14) hx hb dJ0_coder_7d493_10 (by decide) ?_
  exact hQ _ _ _ _ dJ0_coder_7d493_14 hP hD hS
set_option maxHeartbeats 4000000 in
theorem c_J0_isLatin1_aae02 {l : Launch} {g : va_G} {ts : ClassId × ClassId × ClassId} {wf : St → va_W} {σ : St} {q v : Nat} : ConS l g ts wf yJ0_isLatin1_aae02 cJ0_isLatin1_aae02 1 (some .boolean) (rk 0 0) σ q v [.ref q] (1) := by
  refine ConS_mk .boolean rfl rfl rfl rfl (by decide) (Nat.le_of_ble_eq_true rfl) ?_
  intro p e s m below meth c A Q ls C hQ hP hD hS hT hl
  have C : FX p s m _ meth c RJ0 cJ0_isLatin1_aae02 1 g ts A := C
  have hx := C.1
  have hb := C.2.1
  have hown := C.2.2.2.1
  have hts := C.2.2.2.2.1
  have hz := C.2.2.2.2.2.2.2.2.2.2.2.1
  have hT0 := hT.1 0 (by decide)
  have hl : lv_has ls 1 [(0, .ref q)] := hl
  refine va_gets hx hb hz hS hown (hts _ q_564) (fun _ h => h) dJ0_isLatin1_aae02_0 ?_
  refine lv_if_eq (tgt := 17) hx hb dJ0_isLatin1_aae02_3 (by decide) (fun c1 => absurd c1 (by decide)) (fun c1 => ?_)
  refine lv_aload_n hx hb dJ0_isLatin1_aae02_6 rfl (lv_at hl 0 rfl) ?_
  refine vk_getf hx hb hT0.2.1 hS hown (hts _ q_1597) (fun _ h => h) dJ0_isLatin1_aae02_7 ?_
  refine lv_if_ne (tgt := 17) hx hb dJ0_isLatin1_aae02_10 (by decide) (fun c1 => absurd rfl c1) (fun c1 => ?_)
  refine lv_iconst (v := 1) hx hb dJ0_isLatin1_aae02_13 (by decide) ?_
  refine lv_goto (tgt := 18) hx hb dJ0_isLatin1_aae02_14 (by decide) ?_
  exact hQ _ _ _ _ dJ0_isLatin1_aae02_18 hP hD hS
set_option maxHeartbeats 4000000 in
theorem c_J0_length_8abf5 {l : Launch} {g : va_G} {ts : ClassId × ClassId × ClassId} {wf : St → va_W} {σ : St} {q v : Nat} : ConS l g ts wf yJ0_length_8abf5 cJ0_length_8abf5 1 (some .int) (rk 1 20) σ q v [.ref q] (6) := by
  refine ConS_mk .int rfl rfl rfl rfl (by decide) (Nat.le_of_ble_eq_true rfl) ?_
  intro p e s m below meth c A Q ls C hQ hP hD hS hT hl
  have C : FX p s m _ meth c RJ0 cJ0_length_8abf5 1 g ts A := C
  have hx := C.1
  have hb := C.2.1
  have hown := C.2.2.2.1
  have hts := C.2.2.2.2.1
  have hz := C.2.2.2.2.2.2.2.2.2.2.2.1
  have hT0 := hT.1 0 (by decide)
  have hl : lv_has ls 1 [(0, .ref q)] := hl
  refine lv_aload_n hx hb dJ0_length_8abf5_0 rfl (lv_at hl 0 rfl) ?_
  refine vk_getf hx hb hT0.2.2.1 hS hown (hts _ q_1598) (fun _ h => h) dJ0_length_8abf5_1 ?_
  refine va_tlen (v := 6) hx hb hT0.2.2.2 hS (by decide) dJ0_length_8abf5_4 ?_
  refine lv_aload_n hx hb dJ0_length_8abf5_5 rfl (lv_at hl 0 rfl) ?_
  refine sV [.int 6] C hP hD hS hT c_J0_coder_7d493 mv_J0_coder_7d493 rfl q_570 dJ0_length_8abf5_6 ⟨Nat.le_of_ble_eq_true rfl, Nat.le_of_ble_eq_true rfl⟩ ⟨Nat.zero_le _, Nat.zero_le _⟩ rfl rfl (Nat.le_of_ble_eq_true rfl) hl.1 (fun H locs hP hD hS => ?_)
  refine lv_ishr hx hb dJ0_length_8abf5_9 ?_
  exact hQ _ _ _ _ dJ0_length_8abf5_10 hP hD hS
def idxB (b : Int32) : Int32 := if 97 = b then 0 else if 110 = b then 1 else if 101 = b then 2 else if 115 = b then 3 else if 104 = b then 4 else if 107 = b then 5 else -1
set_option maxHeartbeats 4000000 in
theorem c_J1_indexOfChar_4cfef {l : Launch} {g : va_G} {ts : ClassId × ClassId × ClassId} {wf : St → va_W} {σ : St} {q v : Nat} {x : Int32} : ConS l g ts wf yJ1_indexOfChar_4cfef cJ1_indexOfChar_4cfef 6 (some .int) (rk 0 0) σ q v [.ref v, .int x, .int 0, .int 6] (idxB x.toInt8.toInt32) := by
  refine ConS_mk .int rfl rfl rfl rfl (by decide) (Nat.le_of_ble_eq_true rfl) ?_
  intro p e s m below meth c A Q ls C hQ hP hD hS hT hl
  have C : FX p s m _ meth c RJ1 cJ1_indexOfChar_4cfef 6 g ts A := C
  have hx := C.1
  have hb := C.2.1
  have hown := C.2.2.2.1
  have hts := C.2.2.2.2.1
  have hz := C.2.2.2.2.2.2.2.2.2.2.2.1
  have hT0 := hT.1 0 (by decide)
  have hl : lv_has ls 6 [(0, .ref v), (1, .int x), (2, .int 0), (3, .int 6)] := hl
  have hQ2 : ∀ (k : Int32) (H : Heap) (locs : List Loc) (pc : Nat) (ls : Array Slot), idxB x.toInt8.toInt32 = k → decode cJ1_indexOfChar_4cfef pc = .ok (.ireturn, 1) → va_P g classes (wf σ) H → va_D A (wf σ) → va_S A s.heap H locs → W p l e (rk 0 0) s m _ below meth c H locs 0 0 Q (F0 m pc ls [.int k]) := fun k H locs pc ls he hd h1 h2 h3 => by subst he; exact hQ H locs pc ls hd h1 h2 h3
  refine lv_iload_n hx hb dJ1_indexOfChar_4cfef_0 rfl (lv_at hl 1 rfl) ?_
  refine lv_i2b (v := x.toInt8.toInt32) hx hb dJ1_indexOfChar_4cfef_1 rfl ?_
  refine lv_topi (fun b eb => ?_)
  rw [← eb] at hQ2
  refine lv_istore (lv' := [(4, .int b), (0, .ref v), (1, .int x), (2, .int 0), (3, .int 6)]) hx hb dJ1_indexOfChar_4cfef_2 hl (by decide) rfl (fun ls hl => ?_)
  refine lv_iload_n hx hb dJ1_indexOfChar_4cfef_4 rfl (lv_at hl 3 rfl) ?_
  refine lv_istore (lv' := [(5, .int 0), (4, .int b), (0, .ref v), (1, .int x), (2, .int 0), (3, .int 6)]) hx hb dJ1_indexOfChar_4cfef_5 hl (by decide) rfl (fun ls hl => ?_)
  refine lv_iload hx hb dJ1_indexOfChar_4cfef_7 (lv_at hl 0 rfl) ?_
  refine lv_iload_n hx hb dJ1_indexOfChar_4cfef_9 rfl (lv_at hl 5 rfl) ?_
  refine lv_icmp_ge (tgt := 31) hx hb dJ1_indexOfChar_4cfef_10 (by decide) (fun c1 => absurd c1 (by decide)) (fun c1 => ?_)
  refine lv_aload_n hx hb dJ1_indexOfChar_4cfef_13 rfl (lv_at hl 2 rfl) ?_
  refine lv_iload hx hb dJ1_indexOfChar_4cfef_14 (lv_at hl 0 rfl) ?_
  refine va_tb (v := .int 97) hx hb hT0.2.2.2 hS (by unfold vp_in; decide) rfl dJ1_indexOfChar_4cfef_16 ?_
  refine lv_iload hx hb dJ1_indexOfChar_4cfef_17 (lv_at hl 1 rfl) ?_
  refine lv_icmp_ne (tgt := 25) hx hb dJ1_indexOfChar_4cfef_19 (by decide) (fun n0 => ?_) (fun n0 => ?_)
  rotate_left
  · refine lv_iload hx hb dJ1_indexOfChar_4cfef_22 (lv_at hl 0 rfl) ?_
    exact hQ2 _ _ _ _ _ (by unfold idxB; rw [if_pos n0]) dJ1_indexOfChar_4cfef_24 hP hD hS
  refine lv_iinc (v := 1) (lv' := [(5, .int 1), (4, .int b), (0, .ref v), (1, .int x), (2, .int 0), (3, .int 6)]) hx hb dJ1_indexOfChar_4cfef_25 hl (k := 0) rfl (by decide) (by decide) rfl (fun ls hl => ?_)
  refine lv_goto (tgt := 7) hx hb dJ1_indexOfChar_4cfef_28 (by decide) ?_
  refine lv_iload hx hb dJ1_indexOfChar_4cfef_7 (lv_at hl 0 rfl) ?_
  refine lv_iload_n hx hb dJ1_indexOfChar_4cfef_9 rfl (lv_at hl 5 rfl) ?_
  refine lv_icmp_ge (tgt := 31) hx hb dJ1_indexOfChar_4cfef_10 (by decide) (fun c1 => absurd c1 (by decide)) (fun c1 => ?_)
  refine lv_aload_n hx hb dJ1_indexOfChar_4cfef_13 rfl (lv_at hl 2 rfl) ?_
  refine lv_iload hx hb dJ1_indexOfChar_4cfef_14 (lv_at hl 0 rfl) ?_
  refine va_tb (v := .int 110) hx hb hT0.2.2.2 hS (by unfold vp_in; decide) rfl dJ1_indexOfChar_4cfef_16 ?_
  refine lv_iload hx hb dJ1_indexOfChar_4cfef_17 (lv_at hl 1 rfl) ?_
  refine lv_icmp_ne (tgt := 25) hx hb dJ1_indexOfChar_4cfef_19 (by decide) (fun n1 => ?_) (fun n1 => ?_)
  rotate_left
  · refine lv_iload hx hb dJ1_indexOfChar_4cfef_22 (lv_at hl 0 rfl) ?_
    exact hQ2 _ _ _ _ _ (by unfold idxB; rw [if_neg n0, if_pos n1]) dJ1_indexOfChar_4cfef_24 hP hD hS
  refine lv_iinc (v := 2) (lv' := [(5, .int 2), (4, .int b), (0, .ref v), (1, .int x), (2, .int 0), (3, .int 6)]) hx hb dJ1_indexOfChar_4cfef_25 hl (k := 0) rfl (by decide) (by decide) rfl (fun ls hl => ?_)
  refine lv_goto (tgt := 7) hx hb dJ1_indexOfChar_4cfef_28 (by decide) ?_
  refine lv_iload hx hb dJ1_indexOfChar_4cfef_7 (lv_at hl 0 rfl) ?_
  refine lv_iload_n hx hb dJ1_indexOfChar_4cfef_9 rfl (lv_at hl 5 rfl) ?_
  refine lv_icmp_ge (tgt := 31) hx hb dJ1_indexOfChar_4cfef_10 (by decide) (fun c1 => absurd c1 (by decide)) (fun c1 => ?_)
  refine lv_aload_n hx hb dJ1_indexOfChar_4cfef_13 rfl (lv_at hl 2 rfl) ?_
  refine lv_iload hx hb dJ1_indexOfChar_4cfef_14 (lv_at hl 0 rfl) ?_
  refine va_tb (v := .int 101) hx hb hT0.2.2.2 hS (by unfold vp_in; decide) rfl dJ1_indexOfChar_4cfef_16 ?_
  refine lv_iload hx hb dJ1_indexOfChar_4cfef_17 (lv_at hl 1 rfl) ?_
  refine lv_icmp_ne (tgt := 25) hx hb dJ1_indexOfChar_4cfef_19 (by decide) (fun n2 => ?_) (fun n2 => ?_)
  rotate_left
  · refine lv_iload hx hb dJ1_indexOfChar_4cfef_22 (lv_at hl 0 rfl) ?_
    exact hQ2 _ _ _ _ _ (by unfold idxB; rw [if_neg n0, if_neg n1, if_pos n2]) dJ1_indexOfChar_4cfef_24 hP hD hS
  refine lv_iinc (v := 3) (lv' := [(5, .int 3), (4, .int b), (0, .ref v), (1, .int x), (2, .int 0), (3, .int 6)]) hx hb dJ1_indexOfChar_4cfef_25 hl (k := 0) rfl (by decide) (by decide) rfl (fun ls hl => ?_)
  refine lv_goto (tgt := 7) hx hb dJ1_indexOfChar_4cfef_28 (by decide) ?_
  refine lv_iload hx hb dJ1_indexOfChar_4cfef_7 (lv_at hl 0 rfl) ?_
  refine lv_iload_n hx hb dJ1_indexOfChar_4cfef_9 rfl (lv_at hl 5 rfl) ?_
  refine lv_icmp_ge (tgt := 31) hx hb dJ1_indexOfChar_4cfef_10 (by decide) (fun c1 => absurd c1 (by decide)) (fun c1 => ?_)
  refine lv_aload_n hx hb dJ1_indexOfChar_4cfef_13 rfl (lv_at hl 2 rfl) ?_
  refine lv_iload hx hb dJ1_indexOfChar_4cfef_14 (lv_at hl 0 rfl) ?_
  refine va_tb (v := .int 115) hx hb hT0.2.2.2 hS (by unfold vp_in; decide) rfl dJ1_indexOfChar_4cfef_16 ?_
  refine lv_iload hx hb dJ1_indexOfChar_4cfef_17 (lv_at hl 1 rfl) ?_
  refine lv_icmp_ne (tgt := 25) hx hb dJ1_indexOfChar_4cfef_19 (by decide) (fun n3 => ?_) (fun n3 => ?_)
  rotate_left
  · refine lv_iload hx hb dJ1_indexOfChar_4cfef_22 (lv_at hl 0 rfl) ?_
    exact hQ2 _ _ _ _ _ (by unfold idxB; rw [if_neg n0, if_neg n1, if_neg n2, if_pos n3]) dJ1_indexOfChar_4cfef_24 hP hD hS
  refine lv_iinc (v := 4) (lv' := [(5, .int 4), (4, .int b), (0, .ref v), (1, .int x), (2, .int 0), (3, .int 6)]) hx hb dJ1_indexOfChar_4cfef_25 hl (k := 0) rfl (by decide) (by decide) rfl (fun ls hl => ?_)
  refine lv_goto (tgt := 7) hx hb dJ1_indexOfChar_4cfef_28 (by decide) ?_
  refine lv_iload hx hb dJ1_indexOfChar_4cfef_7 (lv_at hl 0 rfl) ?_
  refine lv_iload_n hx hb dJ1_indexOfChar_4cfef_9 rfl (lv_at hl 5 rfl) ?_
  refine lv_icmp_ge (tgt := 31) hx hb dJ1_indexOfChar_4cfef_10 (by decide) (fun c1 => absurd c1 (by decide)) (fun c1 => ?_)
  refine lv_aload_n hx hb dJ1_indexOfChar_4cfef_13 rfl (lv_at hl 2 rfl) ?_
  refine lv_iload hx hb dJ1_indexOfChar_4cfef_14 (lv_at hl 0 rfl) ?_
  refine va_tb (v := .int 104) hx hb hT0.2.2.2 hS (by unfold vp_in; decide) rfl dJ1_indexOfChar_4cfef_16 ?_
  refine lv_iload hx hb dJ1_indexOfChar_4cfef_17 (lv_at hl 1 rfl) ?_
  refine lv_icmp_ne (tgt := 25) hx hb dJ1_indexOfChar_4cfef_19 (by decide) (fun n4 => ?_) (fun n4 => ?_)
  rotate_left
  · refine lv_iload hx hb dJ1_indexOfChar_4cfef_22 (lv_at hl 0 rfl) ?_
    exact hQ2 _ _ _ _ _ (by unfold idxB; rw [if_neg n0, if_neg n1, if_neg n2, if_neg n3, if_pos n4]) dJ1_indexOfChar_4cfef_24 hP hD hS
  refine lv_iinc (v := 5) (lv' := [(5, .int 5), (4, .int b), (0, .ref v), (1, .int x), (2, .int 0), (3, .int 6)]) hx hb dJ1_indexOfChar_4cfef_25 hl (k := 0) rfl (by decide) (by decide) rfl (fun ls hl => ?_)
  refine lv_goto (tgt := 7) hx hb dJ1_indexOfChar_4cfef_28 (by decide) ?_
  refine lv_iload hx hb dJ1_indexOfChar_4cfef_7 (lv_at hl 0 rfl) ?_
  refine lv_iload_n hx hb dJ1_indexOfChar_4cfef_9 rfl (lv_at hl 5 rfl) ?_
  refine lv_icmp_ge (tgt := 31) hx hb dJ1_indexOfChar_4cfef_10 (by decide) (fun c1 => absurd c1 (by decide)) (fun c1 => ?_)
  refine lv_aload_n hx hb dJ1_indexOfChar_4cfef_13 rfl (lv_at hl 2 rfl) ?_
  refine lv_iload hx hb dJ1_indexOfChar_4cfef_14 (lv_at hl 0 rfl) ?_
  refine va_tb (v := .int 107) hx hb hT0.2.2.2 hS (by unfold vp_in; decide) rfl dJ1_indexOfChar_4cfef_16 ?_
  refine lv_iload hx hb dJ1_indexOfChar_4cfef_17 (lv_at hl 1 rfl) ?_
  refine lv_icmp_ne (tgt := 25) hx hb dJ1_indexOfChar_4cfef_19 (by decide) (fun n5 => ?_) (fun n5 => ?_)
  rotate_left
  · refine lv_iload hx hb dJ1_indexOfChar_4cfef_22 (lv_at hl 0 rfl) ?_
    exact hQ2 _ _ _ _ _ (by unfold idxB; rw [if_neg n0, if_neg n1, if_neg n2, if_neg n3, if_neg n4, if_pos n5]) dJ1_indexOfChar_4cfef_24 hP hD hS
  refine lv_iinc (v := 6) (lv' := [(5, .int 6), (4, .int b), (0, .ref v), (1, .int x), (2, .int 0), (3, .int 6)]) hx hb dJ1_indexOfChar_4cfef_25 hl (k := 0) rfl (by decide) (by decide) rfl (fun ls hl => ?_)
  refine lv_goto (tgt := 7) hx hb dJ1_indexOfChar_4cfef_28 (by decide) ?_
  refine lv_iload hx hb dJ1_indexOfChar_4cfef_7 (lv_at hl 0 rfl) ?_
  refine lv_iload_n hx hb dJ1_indexOfChar_4cfef_9 rfl (lv_at hl 5 rfl) ?_
  refine lv_icmp_ge (tgt := 31) hx hb dJ1_indexOfChar_4cfef_10 (by decide) (fun c1 => ?_) (fun c1 => absurd (by decide) c1)
  refine lv_iconst (v := -1) hx hb dJ1_indexOfChar_4cfef_31 (by decide) ?_
  exact hQ2 _ _ _ _ _ (by unfold idxB; rw [if_neg n0, if_neg n1, if_neg n2, if_neg n3, if_neg n4, if_neg n5]) dJ1_indexOfChar_4cfef_32 hP hD hS
def idxN (x : Int32) : Int32 := if x < 0 then -1 else if 255 < x then -1 else idxB x.toInt8.toInt32
set_option maxHeartbeats 4000000 in
theorem c_J1_indexOf_4cfef {l : Launch} {g : va_G} {ts : ClassId × ClassId × ClassId} {wf : St → va_W} {σ : St} {q v : Nat} {x : Int32} : ConS l g ts wf yJ1_indexOf_4cfef cJ1_indexOf_4cfef 4 (some .int) (rk 1 30) σ q v [.ref v, .int x, .int 0, .int 6] (idxN x) := by
  refine ConS_mk .int rfl rfl rfl rfl (by decide) (Nat.le_of_ble_eq_true rfl) ?_
  intro p e s m below meth c A Q ls C hQ hP hD hS hT hl
  have C : FX p s m _ meth c RJ1 cJ1_indexOf_4cfef 4 g ts A := C
  have hx := C.1
  have hb := C.2.1
  have hown := C.2.2.2.1
  have hts := C.2.2.2.2.1
  have hz := C.2.2.2.2.2.2.2.2.2.2.2.1
  have hT0 := hT.1 0 (by decide)
  have hl : lv_has ls 4 [(0, .ref v), (1, .int x), (2, .int 0), (3, .int 6)] := hl
  refine lv_iload_n hx hb dJ1_indexOf_4cfef_0 rfl (lv_at hl 1 rfl) ?_
  have hce : f_J1_canEncode_9a6ad x = some (if x < 0 then 0 else if 255 < x then 0 else 1) := by
    unfold f_J1_canEncode_9a6ad f_J1_canEncode_9a6ad0 chkB1
    by_cases h1 : x < 0
    · simp [h1]
    · by_cases h2 : (255 : Int32) < x
      · simp [h1, h2]
      · simp [h1, h2]
  refine tI [] C hP hD hS (c_J1_canEncode_9a6ad hce) ms_J1_canEncode_9a6ad q_577 dJ1_indexOf_4cfef_1 ⟨Nat.le_of_ble_eq_true rfl, Nat.le_of_ble_eq_true rfl⟩ ⟨Nat.zero_le _, Nat.zero_le _⟩ rfl rfl (Nat.le_of_ble_eq_true rfl) hl.1 (fun H locs hP hD hS => ?_)
  refine lv_if_ne (tgt := 9) hx hb dJ1_indexOf_4cfef_4 (by decide) (fun c1 => ?_) (fun c1 => ?_)
  · have hi : idxN x = idxB x.toInt8.toInt32 := by
      unfold idxN
      by_cases h1 : x < 0
      · rw [if_pos h1] at c1; exact absurd rfl c1
      · rw [if_neg h1] at c1
        by_cases h2 : (255 : Int32) < x
        · rw [if_pos h2] at c1; exact absurd rfl c1
        · rw [if_neg h1, if_neg h2]
    refine lv_iload_n hx hb dJ1_indexOf_4cfef_9 rfl (lv_at hl 2 rfl) ?_
    refine lv_iconst (v := 0) hx hb dJ1_indexOf_4cfef_10 (by decide) ?_
    refine va_mmax hx hb (C.2.2.1.trans hl.1.symm) hown (hts _ q_580) (hts _ q_581) (hts _ q_74) (hts _ q_582) (Nat.le_of_ble_eq_true rfl) (Nat.le_of_ble_eq_true rfl) (Nat.zero_le _) (Nat.zero_le _) dJ1_indexOf_4cfef_11 ?_
    refine lv_istore_n (lv' := [(2, .int 0), (0, .ref v), (1, .int x), (3, .int 6)]) hx hb dJ1_indexOf_4cfef_14 rfl hl (by decide) rfl (fun ls hl => ?_)
    refine lv_iload_n hx hb dJ1_indexOf_4cfef_15 rfl (lv_at hl 3 rfl) ?_
    refine lv_aload_n hx hb dJ1_indexOf_4cfef_16 rfl (lv_at hl 1 rfl) ?_
    refine va_tlen (v := 6) hx hb hT0.2.2.2 hS (by decide) dJ1_indexOf_4cfef_17 ?_
    refine va_mmin hx hb (C.2.2.1.trans hl.1.symm) hown (hts _ q_583) (hts _ q_584) (hts _ q_74) (hts _ q_585) (Nat.le_of_ble_eq_true rfl) (Nat.le_of_ble_eq_true rfl) (Nat.zero_le _) (Nat.zero_le _) dJ1_indexOf_4cfef_18 ?_
    refine lv_istore_n (lv' := [(3, .int 6), (2, .int 0), (0, .ref v), (1, .int x)]) hx hb dJ1_indexOf_4cfef_21 rfl hl (by decide) rfl (fun ls hl => ?_)
    refine lv_iload_n hx hb dJ1_indexOf_4cfef_22 rfl (lv_at hl 1 rfl) ?_
    refine lv_iload_n hx hb dJ1_indexOf_4cfef_23 rfl (lv_at hl 0 rfl) ?_
    refine lv_icmp_lt (tgt := 29) hx hb dJ1_indexOf_4cfef_24 (by decide) (fun c2 => ?_) (fun c2 => absurd (by decide) c2)
    refine lv_aload_n hx hb dJ1_indexOf_4cfef_29 rfl (lv_at hl 2 rfl) ?_
    refine lv_iload_n hx hb dJ1_indexOf_4cfef_30 rfl (lv_at hl 3 rfl) ?_
    refine lv_iload_n hx hb dJ1_indexOf_4cfef_31 rfl (lv_at hl 1 rfl) ?_
    refine lv_iload_n hx hb dJ1_indexOf_4cfef_32 rfl (lv_at hl 0 rfl) ?_
    refine sT [] C hP hD hS hT c_J1_indexOfChar_4cfef ms_J1_indexOfChar_4cfef q_586 dJ1_indexOf_4cfef_33 ⟨Nat.le_of_ble_eq_true rfl, Nat.le_of_ble_eq_true rfl⟩ ⟨Nat.zero_le _, Nat.zero_le _⟩ rfl rfl (Nat.le_of_ble_eq_true rfl) hl.1 (fun H locs hP hD hS => ?_)
    rw [← hi]
    exact hQ _ _ _ _ dJ1_indexOf_4cfef_36 hP hD hS
  · have hi : idxN x = -1 := by
      unfold idxN
      by_cases h1 : x < 0
      · rw [if_pos h1]
      · by_cases h2 : (255 : Int32) < x
        · rw [if_neg h1, if_pos h2]
        · rw [if_neg h1, if_neg h2] at c1; exact absurd c1 (by decide)
    refine lv_iconst (v := -1) hx hb dJ1_indexOf_4cfef_7 (by decide) ?_
    rw [← hi]
    exact hQ _ _ _ _ dJ1_indexOf_4cfef_8 hP hD hS
set_option maxHeartbeats 4000000 in
theorem c_J0_indexOf_7cf53 {l : Launch} {g : va_G} {ts : ClassId × ClassId × ClassId} {wf : St → va_W} {σ : St} {q v : Nat} {x : Int32} : ConS l g ts wf yJ0_indexOf_7cf53 cJ0_indexOf_7cf53 3 (some .int) (rk 2 60) σ q v [.ref q, .int x, .int 0] (idxN x) := by
  refine ConS_mk .int rfl rfl rfl rfl (by decide) (Nat.le_of_ble_eq_true rfl) ?_
  intro p e s m below meth c A Q ls C hQ hP hD hS hT hl
  have C : FX p s m _ meth c RJ0 cJ0_indexOf_7cf53 3 g ts A := C
  have hx := C.1
  have hb := C.2.1
  have hown := C.2.2.2.1
  have hts := C.2.2.2.2.1
  have hz := C.2.2.2.2.2.2.2.2.2.2.2.1
  have hT0 := hT.1 0 (by decide)
  have hl : lv_has ls 3 [(0, .ref q), (1, .int x), (2, .int 0)] := hl
  refine lv_aload_n hx hb dJ0_indexOf_7cf53_0 rfl (lv_at hl 0 rfl) ?_
  refine sV [] C hP hD hS hT c_J0_isLatin1_aae02 mv_J0_isLatin1_aae02 rfl q_560 dJ0_indexOf_7cf53_1 ⟨Nat.le_of_ble_eq_true rfl, Nat.le_of_ble_eq_true rfl⟩ ⟨Nat.zero_le _, Nat.zero_le _⟩ rfl rfl (Nat.le_of_ble_eq_true rfl) hl.1 (fun H locs hP hD hS => ?_)
  refine lv_if_eq (tgt := 23) hx hb dJ0_indexOf_7cf53_4 (by decide) (fun c1 => absurd c1 (by decide)) (fun c1 => ?_)
  refine lv_aload_n hx hb dJ0_indexOf_7cf53_7 rfl (lv_at hl 0 rfl) ?_
  refine vk_getf hx hb hT0.2.2.1 hS hown (hts _ q_1598) (fun _ h => h) dJ0_indexOf_7cf53_8 ?_
  refine lv_iload_n hx hb dJ0_indexOf_7cf53_11 rfl (lv_at hl 1 rfl) ?_
  refine lv_iload_n hx hb dJ0_indexOf_7cf53_12 rfl (lv_at hl 2 rfl) ?_
  refine lv_aload_n hx hb dJ0_indexOf_7cf53_13 rfl (lv_at hl 0 rfl) ?_
  refine sV [.int 0, .int x, .ref v] C hP hD hS hT c_J0_length_8abf5 mv_J0_length_8abf5 rfl q_566 dJ0_indexOf_7cf53_14 ⟨Nat.le_of_ble_eq_true rfl, Nat.le_of_ble_eq_true rfl⟩ ⟨Nat.zero_le _, Nat.zero_le _⟩ rfl rfl (Nat.le_of_ble_eq_true rfl) hl.1 (fun H locs hP hD hS => ?_)
  refine sT [] C hP hD hS hT c_J1_indexOf_4cfef ms_J1_indexOf_4cfef q_574 dJ0_indexOf_7cf53_17 ⟨Nat.le_of_ble_eq_true rfl, Nat.le_of_ble_eq_true rfl⟩ ⟨Nat.zero_le _, Nat.zero_le _⟩ rfl rfl (Nat.le_of_ble_eq_true rfl) hl.1 (fun H locs hP hD hS => ?_)
  refine lv_goto (tgt := 36) hx hb dJ0_indexOf_7cf53_20 (by decide) ?_
  exact hQ _ _ _ _ dJ0_indexOf_7cf53_36 hP hD hS
set_option maxHeartbeats 4000000 in
theorem c_J0_indexOf_0f7a4 {l : Launch} {g : va_G} {ts : ClassId × ClassId × ClassId} {wf : St → va_W} {σ : St} {q v : Nat} {x : Int32} : ConS l g ts wf yJ0_indexOf_0f7a4 cJ0_indexOf_0f7a4 2 (some .int) (rk 3 90) σ q v [.ref q, .int x] (idxN x) := by
  refine ConS_mk .int rfl rfl rfl rfl (by decide) (Nat.le_of_ble_eq_true rfl) ?_
  intro p e s m below meth c A Q ls C hQ hP hD hS hT hl
  have C : FX p s m _ meth c RJ0 cJ0_indexOf_0f7a4 2 g ts A := C
  have hx := C.1
  have hb := C.2.1
  have hown := C.2.2.2.1
  have hts := C.2.2.2.2.1
  have hz := C.2.2.2.2.2.2.2.2.2.2.2.1
  have hT0 := hT.1 0 (by decide)
  have hl : lv_has ls 2 [(0, .ref q), (1, .int x)] := hl
  refine lv_aload_n hx hb dJ0_indexOf_0f7a4_0 rfl (lv_at hl 0 rfl) ?_
  refine lv_iload_n hx hb dJ0_indexOf_0f7a4_1 rfl (lv_at hl 1 rfl) ?_
  refine lv_iconst (v := 0) hx hb dJ0_indexOf_0f7a4_2 (by decide) ?_
  refine sV [] C hP hD hS hT c_J0_indexOf_7cf53 mv_J0_indexOf_7cf53 rfl q_556 dJ0_indexOf_0f7a4_3 ⟨Nat.le_of_ble_eq_true rfl, Nat.le_of_ble_eq_true rfl⟩ ⟨Nat.zero_le _, Nat.zero_le _⟩ rfl rfl (Nat.le_of_ble_eq_true rfl) hl.1 (fun H locs hP hD hS => ?_)
  exact hQ _ _ _ _ dJ0_indexOf_0f7a4_6 hP hD hS
