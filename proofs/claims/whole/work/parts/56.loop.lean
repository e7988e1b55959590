def AllSteps (Rel Rel2 : St → St → Prop) : Prop := Step_0 Rel Rel2 ∧ Step_1 Rel Rel2 ∧ Step_2 Rel Rel2 ∧ Step_3 Rel Rel2 ∧ Step_4 Rel Rel2 ∧ Step_5 Rel Rel2 ∧ Step_6 Rel Rel2 ∧ Step_7 Rel Rel2 ∧ Step_8 Rel Rel2 ∧ Step_9 Rel Rel2 ∧ Step_10 Rel Rel2 ∧ Step_11 Rel Rel2 ∧ Step_12 Rel Rel2 ∧ Step_13 Rel Rel2 ∧ Step_14 Rel Rel2 ∧ Step_15 Rel Rel2 ∧ Step_16 Rel Rel2 ∧ Step_17 Rel Rel2 ∧ Step_18 Rel Rel2 ∧ Step_19 Rel Rel2 ∧ Step_20 Rel Rel2 ∧ Step_21 Rel Rel2 ∧ Step_22 Rel Rel2 ∧ Step_23 Rel Rel2 ∧ Step_24 Rel Rel2 ∧ Step_25 Rel Rel2 ∧ Step_26 Rel Rel2 ∧ Step_27 Rel Rel2 ∧ Step_28 Rel Rel2 ∧ Step_29 Rel Rel2 ∧ Step_30 Rel Rel2 ∧ Step_31 Rel Rel2 ∧ Step_32 Rel Rel2 ∧ Step_33 Rel Rel2 ∧ Step_34 Rel Rel2 ∧ Step_35 Rel Rel2 ∧ Step_36 Rel Rel2 ∧ Step_37 Rel Rel2 ∧ Step_38 Rel Rel2 ∧ Step_39 Rel Rel2 ∧ Step_40 Rel Rel2 ∧ Step_41 Rel Rel2 ∧ Step_42 Rel Rel2 ∧ Step_43 Rel Rel2
theorem lp_gt {L k : Nat} (hL : L ≤ 3072) (hk : 6 * k ≤ L + 5) : (Int32.ofNat L - 6 < nI (6 * k)) ↔ ¬ 6 * k + 6 ≤ L := by
  have h1 : (Int32.ofNat L - 6).toInt = (L : Int) - 6 := pk_sub_toInt (a := L) (b := 6) (by omega) (by omega)
  rw [Int32.lt_iff_toInt_lt, h1, nI_toInt (by omega)]
  omega
set_option maxHeartbeats 4000000 in
theorem law_exit {p : Program} {l : Launch} {e : Env} {s : State} {m : MethodId} {below : List Frame} {meth : Method} {c : Code} {g : va_G} {ts : ClassId × ClassId × ClassId} {b L : Nat} {xs : Nat → Int32} (C : FX p s m #[Value.ref b] meth c RL cL_law 4 g ts (fun q : Nat => s.heap.size ≤ q)) (hX : va_X b L xs s s.heap) (hbl : b < s.heap.size) (hbA : ¬ (fun q : Nat => s.heap.size ≤ q) b) (hL : L ≤ 3072) (hr : meth.sig.returnType = ret) (hlocks : meth.locks = false) {k : Nat} {x1 x2 : Nat} {H : Heap} {locs : List Loc} {ls : Array Slot} (hk : 6 * k ≤ L + 5) (hn : ¬ 6 * k + 6 ≤ L) (hS : va_S (fun q : Nat => s.heap.size ≤ q) s.heap H locs) (hl : lv_has ls 4 [(0, .ref b), (1, .ref x1), (2, .ref x2), (3, .int (nI (6 * k)))]) : W p l e room_1 s m #[Value.ref b] below meth c H locs (74 + 4 * k) (4358 + 267 * k) (lw_Z below #[Value.ref b] s) (F0 m 18 ls []) := by
  have hx := C.1
  have hb := C.2.1
  refine lv_iload_n hx hb dL_law_18 rfl (lv_at hl 3 rfl) ?_
  refine lv_aload_n hx hb dL_law_19 rfl (lv_at hl 0 rfl) ?_
  refine va_slen hx hb hX hbl hbA hS dL_law_20 ?_
  refine lv_bipush (v := 6) hx hb dL_law_21 (by decide) ?_
  refine lv_isub hx hb dL_law_23 ?_
  refine lv_icmp_gt (tgt := 1600) hx hb dL_law_24 (by decide) (fun c1 => ?_) (fun c1 => absurd ((lp_gt hL hk).mpr hn) c1)
  refine lv_iconst (v := 1) hx hb dL_law_1600 (by decide) ?_
  refine va_forget (fun q hq => hS.2.2 q hq) ?_
  refine W.widen (k := 600000) (n := 7302250) (by omega) (by omega) ?_
  exact lw_ret hx hb hr hlocks dL_law_1601
set_option maxHeartbeats 8000000 in
set_option maxRecDepth 100000 in
theorem law_loop {p : Program} {l : Launch} {e : Env} {s : State} {m : MethodId} {below : List Frame} {meth : Method} {c : Code} {g : va_G} {ts : ClassId × ClassId × ClassId} {b L : Nat} {xs : Nat → Int32} {a2 : Nat → Nat} {Rel : Nat → St → St → Prop} (hst : ∀ k, k < 512 → AllSteps (Rel k) (Rel (k + 1))) (hmo : ∀ k σ τ, k < 512 → Rel k σ τ → Rel (k + 1) σ τ) (C : FX p s m #[Value.ref b] meth c RL cL_law 4 g ts (fun q : Nat => s.heap.size ≤ q)) (hO : va_AO "AsInBertha$Shelf" s) (hX : va_X b L xs s s.heap) (hbl : b < s.heap.size) (hbA : ¬ (fun q : Nat => s.heap.size ≤ q) b) (hL : L ≤ 3072) (hr : meth.sig.returnType = ret) (hlocks : meth.locks = false) : ∀ (n k : Nat) (σ τ : St) (a : Nat → Nat) (H : Heap) (locs : List Loc) (ls : Array Slot), L ≤ 6 * k + 6 * n → 6 * k ≤ L + 5 → Rel k σ τ → va_P g classes (WC ts a σ) H → va_P g classes (WM ts a2 τ) H → va_D (fun q : Nat => s.heap.size ≤ q) (WC ts a σ ++ WM ts a2 τ) → va_S (fun q : Nat => s.heap.size ≤ q) s.heap H locs → lv_has ls 4 [(0, .ref b), (1, .ref (a 0)), (2, .ref (a2 0)), (3, .int (nI (6 * k)))] → W p l e room_1 s m #[Value.ref b] below meth c H locs (74 + 4 * k) (4358 + 267 * k) (lw_Z below #[Value.ref b] s) (F0 m 18 ls []) := by
  have hx := C.1
  have hb := C.2.1
  intro n
  induction n with
  | zero =>
    intro k σ τ a H locs ls h1 h2 hRel hP hPm hD hS hl
    exact law_exit C hX hbl hbA hL hr hlocks h2 (by omega) hS hl
  | succ n ih =>
    intro k σ τ a H locs ls h1 h2 hRel hP hPm hD hS hl
    by_cases hk6 : 6 * k + 6 ≤ L
    rotate_left
    · exact law_exit C hX hbl hbA hL hr hlocks h2 hk6 hS hl
    have hnext : ∀ (σ' τ' : St) (a' : Nat → Nat) (H : Heap) (locs : List Loc), Rel (k + 1) σ' τ' → keepA a a' → va_P g classes (WC ts a' σ') H → va_P g classes (WM ts a2 τ') H → va_D (fun q : Nat => s.heap.size ≤ q) (WC ts a' σ' ++ WM ts a2 τ') → va_S (fun q : Nat => s.heap.size ≤ q) s.heap H locs → W p l e room_1 s m #[Value.ref b] below meth c H locs (74 + 4 * k + 4) (4358 + 267 * k + 267) (lw_Z below #[Value.ref b] s) (F0 m 1594 ls []) := by
      intro σ' τ' a' H locs hRel hka hP hPm hD hS
      refine lv_iinc (v := nI (6 * (k + 1))) (lv' := [(3, .int (nI (6 * (k + 1)))), (0, .ref b), (1, .ref (a 0)), (2, .ref (a2 0))]) hx hb dL_law_1594 hl (k := 3) rfl (show nI (6 * k) + nI 6 = nI (6 * (k + 1)) from nI_add _ _) (by decide) rfl (fun ls hl => ?_)
      refine lv_goto (tgt := 18) hx hb dL_law_1597 (by decide) ?_
      refine W.widen (k := 74 + 4 * (k + 1)) (n := 4358 + 267 * (k + 1)) (by omega) (by omega) ?_
      exact ih (k + 1) σ' τ' a' H locs ls (by omega) (by omega) hRel hP hPm hD hS (by rw [hka 0 (by decide)]; exact lv_sub hl [1, 2, 3, 0] rfl)
    have hcs : 74 + 4 * k + 4 ≤ room_1.cells ∧ 4358 + 267 * k + 267 ≤ room_1.slots := ⟨by show 74 + 4 * k + 4 ≤ 600000; omega, by show 4358 + 267 * k + 267 ≤ 7302250; omega⟩
    refine lv_iload_n hx hb dL_law_18 rfl (lv_at hl 3 rfl) ?_
    refine lv_aload_n hx hb dL_law_19 rfl (lv_at hl 0 rfl) ?_
    refine va_slen hx hb hX hbl hbA hS dL_law_20 ?_
    refine lv_bipush (v := 6) hx hb dL_law_21 (by decide) ?_
    refine lv_isub hx hb dL_law_23 ?_
    refine lv_icmp_gt (tgt := 1600) hx hb dL_law_24 (by decide) (fun c1 => absurd hk6 ((lp_gt hL h2).mp c1)) (fun c1 => ?_)
    refine lv_aload_n hx hb dL_law_27 rfl (lv_at hl 0 rfl) ?_
    refine lv_iload_n hx hb dL_law_28 rfl (lv_at hl 3 rfl) ?_
    refine va_sld hx hb hX hbl hbA hS (vp_in_nI (by omega) (by omega)) dL_law_29 ?_
    refine lv_bipush (v := 63) hx hb dL_law_30 (by decide) ?_
    refine lv_iand hx hb dL_law_32 ?_
    refine lv_topi (fun v ev => ?_)
    by_cases c100 : v = 0
    · refine lv_tableIn (off := 191) (tgt := 224) hx hb dL_law_33 (by rw [c100]; decide) (by rw [c100]; decide) (by rw [c100]; rfl) (by decide) ?_
      exact law_c0 ((hst k (by omega)).1) C hO hX hbl hbA hL hk6 hRel hP hPm hD hS hcs hl hnext
    by_cases c101 : v = 1
    · refine lv_tableIn (off := 224) (tgt := 257) hx hb dL_law_33 (by rw [c101]; decide) (by rw [c101]; decide) (by rw [c101]; rfl) (by decide) ?_
      exact law_c1 ((hst k (by omega)).2.1) C hO hX hbl hbA hL hk6 hRel hP hPm hD hS hcs hl hnext
    by_cases c102 : v = 2
    · refine lv_tableIn (off := 267) (tgt := 300) hx hb dL_law_33 (by rw [c102]; decide) (by rw [c102]; decide) (by rw [c102]; rfl) (by decide) ?_
      exact law_c2 ((hst k (by omega)).2.2.1) C hO hX hbl hbA hL hk6 hRel hP hPm hD hS hcs hl hnext
    by_cases c103 : v = 3
    · refine lv_tableIn (off := 300) (tgt := 333) hx hb dL_law_33 (by rw [c103]; decide) (by rw [c103]; decide) (by rw [c103]; rfl) (by decide) ?_
      exact law_c3 ((hst k (by omega)).2.2.2.1) C hO hX hbl hbA hL hk6 hRel hP hPm hD hS hcs hl hnext
    by_cases c104 : v = 4
    · refine lv_tableIn (off := 333) (tgt := 366) hx hb dL_law_33 (by rw [c104]; decide) (by rw [c104]; decide) (by rw [c104]; rfl) (by decide) ?_
      exact law_c4 ((hst k (by omega)).2.2.2.2.1) C hO hX hbl hbA hL hk6 hRel hP hPm hD hS hcs hl hnext
    by_cases c105 : v = 5
    · refine lv_tableIn (off := 356) (tgt := 389) hx hb dL_law_33 (by rw [c105]; decide) (by rw [c105]; decide) (by rw [c105]; rfl) (by decide) ?_
      exact law_c5 ((hst k (by omega)).2.2.2.2.2.1) C hO hX hbl hbA hL hk6 hRel hP hPm hD hS hcs hl hnext
    by_cases c106 : v = 6
    · refine lv_tableIn (off := 369) (tgt := 402) hx hb dL_law_33 (by rw [c106]; decide) (by rw [c106]; decide) (by rw [c106]; rfl) (by decide) ?_
      exact law_c6 ((hst k (by omega)).2.2.2.2.2.2.1) C hO hX hbl hbA hL hk6 hRel hP hPm hD hS hcs hl hnext
    by_cases c107 : v = 7
    · refine lv_tableIn (off := 413) (tgt := 446) hx hb dL_law_33 (by rw [c107]; decide) (by rw [c107]; decide) (by rw [c107]; rfl) (by decide) ?_
      exact law_c7 ((hst k (by omega)).2.2.2.2.2.2.2.1) C hO hX hbl hbA hL hk6 hRel hP hPm hD hS hcs hl hnext
    by_cases c108 : v = 8
    · refine lv_tableIn (off := 457) (tgt := 490) hx hb dL_law_33 (by rw [c108]; decide) (by rw [c108]; decide) (by rw [c108]; rfl) (by decide) ?_
      exact law_c8 ((hst k (by omega)).2.2.2.2.2.2.2.2.1) C hO hX hbl hbA hL hk6 hRel hP hPm hD hS hcs hl hnext
    by_cases c109 : v = 9
    · refine lv_tableIn (off := 480) (tgt := 513) hx hb dL_law_33 (by rw [c109]; decide) (by rw [c109]; decide) (by rw [c109]; rfl) (by decide) ?_
      exact law_c9 ((hst k (by omega)).2.2.2.2.2.2.2.2.2.1) C hO hX hbl hbA hL hk6 hRel hP hPm hD hS hcs hl hnext
    by_cases c110 : v = 10
    · refine lv_tableIn (off := 513) (tgt := 546) hx hb dL_law_33 (by rw [c110]; decide) (by rw [c110]; decide) (by rw [c110]; rfl) (by decide) ?_
      exact law_c10 ((hst k (by omega)).2.2.2.2.2.2.2.2.2.2.1) C hO hX hbl hbA hL hk6 hRel hP hPm hD hS hcs hl hnext
    by_cases c111 : v = 11
    · refine lv_tableIn (off := 557) (tgt := 590) hx hb dL_law_33 (by rw [c111]; decide) (by rw [c111]; decide) (by rw [c111]; rfl) (by decide) ?_
      exact law_c11 ((hst k (by omega)).2.2.2.2.2.2.2.2.2.2.2.1) C hO hX hbl hbA hL hk6 hRel hP hPm hD hS hcs hl hnext
    by_cases c112 : v = 12
    · refine lv_tableIn (off := 591) (tgt := 624) hx hb dL_law_33 (by rw [c112]; decide) (by rw [c112]; decide) (by rw [c112]; rfl) (by decide) ?_
      exact law_c12 ((hst k (by omega)).2.2.2.2.2.2.2.2.2.2.2.2.1) C hO hX hbl hbA hL hk6 hRel hP hPm hD hS hcs hl hnext
    by_cases c113 : v = 13
    · refine lv_tableIn (off := 635) (tgt := 668) hx hb dL_law_33 (by rw [c113]; decide) (by rw [c113]; decide) (by rw [c113]; rfl) (by decide) ?_
      exact law_c13 ((hst k (by omega)).2.2.2.2.2.2.2.2.2.2.2.2.2.1) C hO hX hbl hbA hL hk6 hRel hP hPm hD hS hcs hl hnext
    by_cases c114 : v = 14
    · refine lv_tableIn (off := 668) (tgt := 701) hx hb dL_law_33 (by rw [c114]; decide) (by rw [c114]; decide) (by rw [c114]; rfl) (by decide) ?_
      exact law_c14 ((hst k (by omega)).2.2.2.2.2.2.2.2.2.2.2.2.2.2.1) C hO hX hbl hbA hL hk6 hRel hP hPm hD hS hcs hl hnext
    by_cases c115 : v = 15
    · refine lv_tableIn (off := 701) (tgt := 734) hx hb dL_law_33 (by rw [c115]; decide) (by rw [c115]; decide) (by rw [c115]; rfl) (by decide) ?_
      exact law_c15 ((hst k (by omega)).2.2.2.2.2.2.2.2.2.2.2.2.2.2.2.1) C hO hX hbl hbA hL hk6 hRel hP hPm hD hS hcs hl hnext
    by_cases c116 : v = 16
    · refine lv_tableIn (off := 724) (tgt := 757) hx hb dL_law_33 (by rw [c116]; decide) (by rw [c116]; decide) (by rw [c116]; rfl) (by decide) ?_
      exact law_c16 ((hst k (by omega)).2.2.2.2.2.2.2.2.2.2.2.2.2.2.2.2.1) C hO hX hbl hbA hL hk6 hRel hP hPm hD hS hcs hl hnext
    by_cases c117 : v = 17
    · refine lv_tableIn (off := 758) (tgt := 791) hx hb dL_law_33 (by rw [c117]; decide) (by rw [c117]; decide) (by rw [c117]; rfl) (by decide) ?_
      exact law_c17 ((hst k (by omega)).2.2.2.2.2.2.2.2.2.2.2.2.2.2.2.2.2.1) C hO hX hbl hbA hL hk6 hRel hP hPm hD hS hcs hl hnext
    by_cases c118 : v = 18
    · refine lv_tableIn (off := 781) (tgt := 814) hx hb dL_law_33 (by rw [c118]; decide) (by rw [c118]; decide) (by rw [c118]; rfl) (by decide) ?_
      exact law_c18 ((hst k (by omega)).2.2.2.2.2.2.2.2.2.2.2.2.2.2.2.2.2.2.1) C hO hX hbl hbA hL hk6 hRel hP hPm hD hS hcs hl hnext
    by_cases c119 : v = 19
    · refine lv_tableIn (off := 794) (tgt := 827) hx hb dL_law_33 (by rw [c119]; decide) (by rw [c119]; decide) (by rw [c119]; rfl) (by decide) ?_
      exact law_c19 ((hst k (by omega)).2.2.2.2.2.2.2.2.2.2.2.2.2.2.2.2.2.2.2.1) C hO hX hbl hbA hL hk6 hRel hP hPm hD hS hcs hl hnext
    by_cases c120 : v = 20
    · refine lv_tableIn (off := 838) (tgt := 871) hx hb dL_law_33 (by rw [c120]; decide) (by rw [c120]; decide) (by rw [c120]; rfl) (by decide) ?_
      exact law_c20 ((hst k (by omega)).2.2.2.2.2.2.2.2.2.2.2.2.2.2.2.2.2.2.2.2.1) C hO hX hbl hbA hL hk6 hRel hP hPm hD hS hcs hl hnext
    by_cases c121 : v = 21
    · refine lv_tableIn (off := 871) (tgt := 904) hx hb dL_law_33 (by rw [c121]; decide) (by rw [c121]; decide) (by rw [c121]; rfl) (by decide) ?_
      exact law_c21 ((hst k (by omega)).2.2.2.2.2.2.2.2.2.2.2.2.2.2.2.2.2.2.2.2.2.1) C hO hX hbl hbA hL hk6 hRel hP hPm hD hS hcs hl hnext
    by_cases c122 : v = 22
    · refine lv_tableIn (off := 894) (tgt := 927) hx hb dL_law_33 (by rw [c122]; decide) (by rw [c122]; decide) (by rw [c122]; rfl) (by decide) ?_
      exact law_c22 ((hst k (by omega)).2.2.2.2.2.2.2.2.2.2.2.2.2.2.2.2.2.2.2.2.2.2.1) C hO hX hbl hbA hL hk6 hRel hP hPm hD hS hcs hl hnext
    by_cases c123 : v = 23
    · refine lv_tableIn (off := 917) (tgt := 950) hx hb dL_law_33 (by rw [c123]; decide) (by rw [c123]; decide) (by rw [c123]; rfl) (by decide) ?_
      exact law_c23 ((hst k (by omega)).2.2.2.2.2.2.2.2.2.2.2.2.2.2.2.2.2.2.2.2.2.2.2.1) C hO hX hbl hbA hL hk6 hRel hP hPm hD hS hcs hl hnext
    by_cases c124 : v = 24
    · refine lv_tableIn (off := 950) (tgt := 983) hx hb dL_law_33 (by rw [c124]; decide) (by rw [c124]; decide) (by rw [c124]; rfl) (by decide) ?_
      exact law_c24 ((hst k (by omega)).2.2.2.2.2.2.2.2.2.2.2.2.2.2.2.2.2.2.2.2.2.2.2.2.1) C hO hX hbl hbA hL hk6 hRel hP hPm hD hS hcs hl hnext
    by_cases c125 : v = 25
    · refine lv_tableIn (off := 993) (tgt := 1026) hx hb dL_law_33 (by rw [c125]; decide) (by rw [c125]; decide) (by rw [c125]; rfl) (by decide) ?_
      exact law_c25 ((hst k (by omega)).2.2.2.2.2.2.2.2.2.2.2.2.2.2.2.2.2.2.2.2.2.2.2.2.2.1) C hO hX hbl hbA hL hk6 hRel hP hPm hD hS hcs hl hnext
    by_cases c126 : v = 26
    · refine lv_tableIn (off := 1026) (tgt := 1059) hx hb dL_law_33 (by rw [c126]; decide) (by rw [c126]; decide) (by rw [c126]; rfl) (by decide) ?_
      exact law_c26 ((hst k (by omega)).2.2.2.2.2.2.2.2.2.2.2.2.2.2.2.2.2.2.2.2.2.2.2.2.2.2.1) C hO hX hbl hbA hL hk6 hRel hP hPm hD hS hcs hl hnext
    by_cases c127 : v = 27
    · refine lv_tableIn (off := 1059) (tgt := 1092) hx hb dL_law_33 (by rw [c127]; decide) (by rw [c127]; decide) (by rw [c127]; rfl) (by decide) ?_
      exact law_c27 ((hst k (by omega)).2.2.2.2.2.2.2.2.2.2.2.2.2.2.2.2.2.2.2.2.2.2.2.2.2.2.2.1) C hO hX hbl hbA hL hk6 hRel hP hPm hD hS hcs hl hnext
    by_cases c128 : v = 28
    · refine lv_tableIn (off := 1082) (tgt := 1115) hx hb dL_law_33 (by rw [c128]; decide) (by rw [c128]; decide) (by rw [c128]; rfl) (by decide) ?_
      exact law_c28 ((hst k (by omega)).2.2.2.2.2.2.2.2.2.2.2.2.2.2.2.2.2.2.2.2.2.2.2.2.2.2.2.2.1) C hO hX hbl hbA hL hk6 hRel hP hPm hD hS hcs hl hnext
    by_cases c129 : v = 29
    · refine lv_tableIn (off := 1095) (tgt := 1128) hx hb dL_law_33 (by rw [c129]; decide) (by rw [c129]; decide) (by rw [c129]; rfl) (by decide) ?_
      exact law_c29 ((hst k (by omega)).2.2.2.2.2.2.2.2.2.2.2.2.2.2.2.2.2.2.2.2.2.2.2.2.2.2.2.2.2.1) C hO hX hbl hbA hL hk6 hRel hP hPm hD hS hcs hl hnext
    by_cases c130 : v = 30
    · refine lv_tableIn (off := 1118) (tgt := 1151) hx hb dL_law_33 (by rw [c130]; decide) (by rw [c130]; decide) (by rw [c130]; rfl) (by decide) ?_
      exact law_c30 ((hst k (by omega)).2.2.2.2.2.2.2.2.2.2.2.2.2.2.2.2.2.2.2.2.2.2.2.2.2.2.2.2.2.2.1) C hO hX hbl hbA hL hk6 hRel hP hPm hD hS hcs hl hnext
    by_cases c131 : v = 31
    · refine lv_tableIn (off := 1131) (tgt := 1164) hx hb dL_law_33 (by rw [c131]; decide) (by rw [c131]; decide) (by rw [c131]; rfl) (by decide) ?_
      exact law_c31 ((hst k (by omega)).2.2.2.2.2.2.2.2.2.2.2.2.2.2.2.2.2.2.2.2.2.2.2.2.2.2.2.2.2.2.2.1) C hO hX hbl hbA hL hk6 hRel hP hPm hD hS hcs hl hnext
    by_cases c132 : v = 32
    · refine lv_tableIn (off := 1144) (tgt := 1177) hx hb dL_law_33 (by rw [c132]; decide) (by rw [c132]; decide) (by rw [c132]; rfl) (by decide) ?_
      exact law_c32 ((hst k (by omega)).2.2.2.2.2.2.2.2.2.2.2.2.2.2.2.2.2.2.2.2.2.2.2.2.2.2.2.2.2.2.2.2.1) C hO hX hbl hbA hL hk6 hRel hP hPm hD hS hcs hl hnext
    by_cases c133 : v = 33
    · refine lv_tableIn (off := 1157) (tgt := 1190) hx hb dL_law_33 (by rw [c133]; decide) (by rw [c133]; decide) (by rw [c133]; rfl) (by decide) ?_
      exact law_c33 ((hst k (by omega)).2.2.2.2.2.2.2.2.2.2.2.2.2.2.2.2.2.2.2.2.2.2.2.2.2.2.2.2.2.2.2.2.2.1) C hO hX hbl hbA hL hk6 hRel hP hPm hD hS hcs hl hnext
    by_cases c134 : v = 34
    · refine lv_tableIn (off := 1170) (tgt := 1203) hx hb dL_law_33 (by rw [c134]; decide) (by rw [c134]; decide) (by rw [c134]; rfl) (by decide) ?_
      exact law_c34 ((hst k (by omega)).2.2.2.2.2.2.2.2.2.2.2.2.2.2.2.2.2.2.2.2.2.2.2.2.2.2.2.2.2.2.2.2.2.2.1) C hO hX hbl hbA hL hk6 hRel hP hPm hD hS hcs hl hnext
    by_cases c135 : v = 35
    · refine lv_tableIn (off := 1193) (tgt := 1226) hx hb dL_law_33 (by rw [c135]; decide) (by rw [c135]; decide) (by rw [c135]; rfl) (by decide) ?_
      exact law_c35 ((hst k (by omega)).2.2.2.2.2.2.2.2.2.2.2.2.2.2.2.2.2.2.2.2.2.2.2.2.2.2.2.2.2.2.2.2.2.2.2.1) C hO hX hbl hbA hL hk6 hRel hP hPm hD hS hcs hl hnext
    by_cases c136 : v = 36
    · refine lv_tableIn (off := 1236) (tgt := 1269) hx hb dL_law_33 (by rw [c136]; decide) (by rw [c136]; decide) (by rw [c136]; rfl) (by decide) ?_
      exact law_c36 ((hst k (by omega)).2.2.2.2.2.2.2.2.2.2.2.2.2.2.2.2.2.2.2.2.2.2.2.2.2.2.2.2.2.2.2.2.2.2.2.2.1) C hO hX hbl hbA hL hk6 hRel hP hPm hD hS hcs hl hnext
    by_cases c137 : v = 37
    · refine lv_tableIn (off := 1259) (tgt := 1292) hx hb dL_law_33 (by rw [c137]; decide) (by rw [c137]; decide) (by rw [c137]; rfl) (by decide) ?_
      exact law_c37 ((hst k (by omega)).2.2.2.2.2.2.2.2.2.2.2.2.2.2.2.2.2.2.2.2.2.2.2.2.2.2.2.2.2.2.2.2.2.2.2.2.2.1) C hO hX hbl hbA hL hk6 hRel hP hPm hD hS hcs hl hnext
    by_cases c138 : v = 38
    · refine lv_tableIn (off := 1292) (tgt := 1325) hx hb dL_law_33 (by rw [c138]; decide) (by rw [c138]; decide) (by rw [c138]; rfl) (by decide) ?_
      exact law_c38 ((hst k (by omega)).2.2.2.2.2.2.2.2.2.2.2.2.2.2.2.2.2.2.2.2.2.2.2.2.2.2.2.2.2.2.2.2.2.2.2.2.2.2.1) C hO hX hbl hbA hL hk6 hRel hP hPm hD hS hcs hl hnext
    by_cases c139 : v = 39
    · refine lv_tableIn (off := 1335) (tgt := 1368) hx hb dL_law_33 (by rw [c139]; decide) (by rw [c139]; decide) (by rw [c139]; rfl) (by decide) ?_
      exact law_c39 ((hst k (by omega)).2.2.2.2.2.2.2.2.2.2.2.2.2.2.2.2.2.2.2.2.2.2.2.2.2.2.2.2.2.2.2.2.2.2.2.2.2.2.2.1) C hO hX hbl hbA hL hk6 hRel hP hPm hD hS hcs hl hnext
    by_cases c140 : v = 40
    · refine lv_tableIn (off := 1408) (tgt := 1441) hx hb dL_law_33 (by rw [c140]; decide) (by rw [c140]; decide) (by rw [c140]; rfl) (by decide) ?_
      exact law_c40 ((hst k (by omega)).2.2.2.2.2.2.2.2.2.2.2.2.2.2.2.2.2.2.2.2.2.2.2.2.2.2.2.2.2.2.2.2.2.2.2.2.2.2.2.2.1) C hO hX hbl hbA hL hk6 hRel hP hPm hD hS hcs hl hnext
    by_cases c141 : v = 41
    · refine lv_tableIn (off := 1442) (tgt := 1475) hx hb dL_law_33 (by rw [c141]; decide) (by rw [c141]; decide) (by rw [c141]; rfl) (by decide) ?_
      exact law_c41 ((hst k (by omega)).2.2.2.2.2.2.2.2.2.2.2.2.2.2.2.2.2.2.2.2.2.2.2.2.2.2.2.2.2.2.2.2.2.2.2.2.2.2.2.2.2.1) C hO hX hbl hbA hL hk6 hRel hP hPm hD hS hcs hl hnext
    by_cases c142 : v = 42
    · refine lv_tableIn (off := 1505) (tgt := 1538) hx hb dL_law_33 (by rw [c142]; decide) (by rw [c142]; decide) (by rw [c142]; rfl) (by decide) ?_
      exact law_c42 ((hst k (by omega)).2.2.2.2.2.2.2.2.2.2.2.2.2.2.2.2.2.2.2.2.2.2.2.2.2.2.2.2.2.2.2.2.2.2.2.2.2.2.2.2.2.2.1) C hO hX hbl hbA hL hk6 hRel hP hPm hD hS hcs hl hnext
    by_cases c143 : v = 43
    · refine lv_tableIn (off := 1538) (tgt := 1571) hx hb dL_law_33 (by rw [c143]; decide) (by rw [c143]; decide) (by rw [c143]; rfl) (by decide) ?_
      exact law_c43 ((hst k (by omega)).2.2.2.2.2.2.2.2.2.2.2.2.2.2.2.2.2.2.2.2.2.2.2.2.2.2.2.2.2.2.2.2.2.2.2.2.2.2.2.2.2.2.2) C hO hX hbl hbA hL hk6 hRel hP hPm hD hS hcs hl hnext
    refine lv_tableOut (tgt := 1594) hx hb dL_law_33 (by have uc100 := lv_neT c100 (a := 0) (by decide); have uc101 := lv_neT c101 (a := 1) (by decide); have uc102 := lv_neT c102 (a := 2) (by decide); have uc103 := lv_neT c103 (a := 3) (by decide); have uc104 := lv_neT c104 (a := 4) (by decide); have uc105 := lv_neT c105 (a := 5) (by decide); have uc106 := lv_neT c106 (a := 6) (by decide); have uc107 := lv_neT c107 (a := 7) (by decide); have uc108 := lv_neT c108 (a := 8) (by decide); have uc109 := lv_neT c109 (a := 9) (by decide); have uc110 := lv_neT c110 (a := 10) (by decide); have uc111 := lv_neT c111 (a := 11) (by decide); have uc112 := lv_neT c112 (a := 12) (by decide); have uc113 := lv_neT c113 (a := 13) (by decide); have uc114 := lv_neT c114 (a := 14) (by decide); have uc115 := lv_neT c115 (a := 15) (by decide); have uc116 := lv_neT c116 (a := 16) (by decide); have uc117 := lv_neT c117 (a := 17) (by decide); have uc118 := lv_neT c118 (a := 18) (by decide); have uc119 := lv_neT c119 (a := 19) (by decide); have uc120 := lv_neT c120 (a := 20) (by decide); have uc121 := lv_neT c121 (a := 21) (by decide); have uc122 := lv_neT c122 (a := 22) (by decide); have uc123 := lv_neT c123 (a := 23) (by decide); have uc124 := lv_neT c124 (a := 24) (by decide); have uc125 := lv_neT c125 (a := 25) (by decide); have uc126 := lv_neT c126 (a := 26) (by decide); have uc127 := lv_neT c127 (a := 27) (by decide); have uc128 := lv_neT c128 (a := 28) (by decide); have uc129 := lv_neT c129 (a := 29) (by decide); have uc130 := lv_neT c130 (a := 30) (by decide); have uc131 := lv_neT c131 (a := 31) (by decide); have uc132 := lv_neT c132 (a := 32) (by decide); have uc133 := lv_neT c133 (a := 33) (by decide); have uc134 := lv_neT c134 (a := 34) (by decide); have uc135 := lv_neT c135 (a := 35) (by decide); have uc136 := lv_neT c136 (a := 36) (by decide); have uc137 := lv_neT c137 (a := 37) (by decide); have uc138 := lv_neT c138 (a := 38) (by decide); have uc139 := lv_neT c139 (a := 39) (by decide); have uc140 := lv_neT c140 (a := 40) (by decide); have uc141 := lv_neT c141 (a := 41) (by decide); have uc142 := lv_neT c142 (a := 42) (by decide); have uc143 := lv_neT c143 (a := 43) (by decide); omega) (by decide) ?_
    refine W.widen (k := 74 + 4 * k + 4) (n := 4358 + 267 * k + 267) (by omega) (by omega) ?_
    exact hnext σ τ a H locs (hmo k σ τ (by omega) hRel) (fun _ _ => rfl) hP hPm hD hS
