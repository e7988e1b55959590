def fillA (f : Nat → Int32) (n : Nat) (v : Int32) : Nat → Int32 := fun j => if j < n then v else f j
def fillL (f : Nat → Int64) (n : Nat) (v : Int64) : Nat → Int64 := fun j => if j < n then v else f j
theorem fillA_0 (f : Nat → Int32) (v : Int32) : fillA f 0 v = f := by funext j; simp [fillA]
theorem fillL_0 (f : Nat → Int64) (v : Int64) : fillL f 0 v = f := by funext j; simp [fillL]
theorem fillA_s (f : Nat → Int32) (i : Nat) (v : Int32) : upd (fillA f i v) i v = fillA f (i + 1) v := by
  funext j
  simp only [upd, fillA]
  by_cases h : j = i
  · subst h; rw [if_pos rfl, if_pos (Nat.lt_succ_self j)]
  · rw [if_neg h]
    by_cases h2 : j < i
    · rw [if_pos h2, if_pos (by omega)]
    · rw [if_neg h2, if_neg (by omega)]
theorem fillL_s (f : Nat → Int64) (i : Nat) (v : Int64) : vp_updL (fillL f i v) i v = fillL f (i + 1) v := by
  funext j
  simp only [vp_updL, fillL]
  by_cases h : j = i
  · subst h; rw [if_pos rfl, if_pos (Nat.lt_succ_self j)]
  · rw [if_neg h]
    by_cases h2 : j < i
    · rw [if_pos h2, if_pos (by omega)]
    · rw [if_neg h2, if_neg (by omega)]
theorem set_same {α : Type} {l : List α} {k : Nat} {x : α} (h : l[k]? = some x) : l.set k x = l := by
  obtain ⟨h1, h2⟩ := List.getElem?_eq_some_iff.mp h
  apply List.ext_getElem?
  intro i
  by_cases hi : k = i
  · subst hi; rw [List.getElem?_set_self h1, h]
  · rw [List.getElem?_set_ne hi]
theorem d_fi_0 : decode cJ7_fill_53178 0 = .ok (.iconst 0, 1) := by decide +kernel
theorem d_fi_1 : decode cJ7_fill_53178 1 = .ok (.istore_n 2, 1) := by decide +kernel
theorem d_fi_2 : decode cJ7_fill_53178 2 = .ok (.aload_n 0, 1) := by decide +kernel
theorem d_fi_3 : decode cJ7_fill_53178 3 = .ok (.arraylength, 1) := by decide +kernel
theorem d_fi_4 : decode cJ7_fill_53178 4 = .ok (.istore_n 3, 1) := by decide +kernel
theorem d_fi_5 : decode cJ7_fill_53178 5 = .ok (.iload_n 2, 1) := by decide +kernel
theorem d_fi_6 : decode cJ7_fill_53178 6 = .ok (.iload_n 3, 1) := by decide +kernel
theorem d_fi_7 : decode cJ7_fill_53178 7 = .ok (.if_icmp .ge 13, 3) := by decide +kernel
theorem d_fi_10 : decode cJ7_fill_53178 10 = .ok (.aload_n 0, 1) := by decide +kernel
theorem d_fi_11 : decode cJ7_fill_53178 11 = .ok (.iload_n 2, 1) := by decide +kernel
theorem d_fi_12 : decode cJ7_fill_53178 12 = .ok (.iload_n 1, 1) := by decide +kernel
theorem d_fi_13 : decode cJ7_fill_53178 13 = .ok (.iastore, 1) := by decide +kernel
theorem d_fi_14 : decode cJ7_fill_53178 14 = .ok (.iinc 2 1, 3) := by decide +kernel
theorem d_fi_17 : decode cJ7_fill_53178 17 = .ok (.goto (-12), 3) := by decide +kernel
theorem d_fi_20 : decode cJ7_fill_53178 20 = .ok (.return_, 1) := by decide +kernel
theorem ms_fillI : MS yJ7_fill_53178 cJ7_fill_53178 4 none 2 := ⟨q_114, q_61, q_115, by decide +kernel, by decide +kernel, by decide +kernel⟩
set_option maxHeartbeats 4000000 in
theorem w_fillI {p : Program} {l : Launch} {e : Env} {s : State} {m : MethodId} {args : Array Value} {below : List Frame} {meth : Method} {c : Code} {g : va_G} {ts : ClassId × ClassId × ClassId} {A : Nat → Prop} {Q : State → Prop} {wf : St → va_W} {σ σ' : St} (C : FX p s m args meth c RJ7 cJ7_fill_53178 4 g ts A) (hQ : RetV p l e (rk 0 0) s m args below meth c cJ7_fill_53178 g wf A σ' Q) {k n q : Nat} {f : Nat → Int32} {v : Int32} (h1 : (wf σ)[k]? = some (q, .inl (ts.1, n, .inl f))) (h2 : (wf σ).set k (q, .inl (ts.1, n, .inl (fillA f n v))) = wf σ') (hn : n ≤ 2000000000) :
    ∀ (d i : Nat) (H : Heap) (locs : List Loc) (ls : Array Slot), i + d = n → va_P g classes ((wf σ).set k (q, .inl (ts.1, n, .inl (fillA f i v)))) H → va_D A ((wf σ).set k (q, .inl (ts.1, n, .inl (fillA f i v)))) → va_S A s.heap H locs → lv_has ls 4 [(0, .ref q), (1, .int v), (2, .int (nI i)), (3, .int (nI n))] → W p l e (rk 0 0) s m args below meth c H locs 0 0 Q (F0 m 5 ls []) := by
  have hx := C.1
  have hb := C.2.1
  have hlt : k < (wf σ).length := (List.getElem?_eq_some_iff.mp h1).1
  intro d
  induction d with
  | zero =>
    intro i H locs ls hi hP hD hS hl
    have hi : i = n := by omega
    subst hi
    refine lv_iload_n hx hb d_fi_5 rfl (lv_at hl 2 rfl) ?_
    refine lv_iload_n hx hb d_fi_6 rfl (lv_at hl 3 rfl) ?_
    refine lv_icmp_ge (tgt := 20) hx hb d_fi_7 (by decide) (fun c1 => ?_) (fun c1 => ?_)
    · exact hQ H locs 20 ls d_fi_20 (by rw [← h2]; exact hP) (by rw [← h2]; exact hD) hS
    · exact absurd (Int32.le_refl _) c1
  | succ d ih =>
    intro i H locs ls hi hP hD hS hl
    refine lv_iload_n hx hb d_fi_5 rfl (lv_at hl 2 rfl) ?_
    refine lv_iload_n hx hb d_fi_6 rfl (lv_at hl 3 rfl) ?_
    refine lv_icmp_ge (tgt := 20) hx hb d_fi_7 (by decide) (fun c1 => ?_) (fun c1 => ?_)
    · exact absurd c1 (nI_ge (by omega) (by omega))
    · refine lv_aload_n hx hb d_fi_10 rfl (lv_at hl 0 rfl) ?_
      refine lv_iload_n hx hb d_fi_11 rfl (lv_at hl 2 rfl) ?_
      refine lv_iload_n hx hb d_fi_12 rfl (lv_at hl 1 rfl) ?_
      refine va_iast (D := g) hx hb C.2.2.2.2.2.2.1 hP hD hS k 0 (List.getElem?_set_self hlt) rfl (vp_in_nI (by omega) (by omega)) d_fi_13 (fun H locs hP hD hS => ?_)
      rw [List.set_set, nI_clamp (by omega), fillA_s] at hP hD
      refine lv_iinc (v := nI (i + 1)) (lv' := [(2, .int (nI (i + 1))), (0, .ref q), (1, .int v), (3, .int (nI n))]) hx hb d_fi_14 hl (k := 2) rfl (nI_1 i) (by decide) rfl (fun ls hl => ?_)
      refine lv_goto (tgt := 5) hx hb d_fi_17 (by decide) ?_
      exact ih (i + 1) _ _ _ (by omega) hP hD hS (lv_sub hl [1, 2, 0, 3] rfl)
set_option maxHeartbeats 4000000 in
theorem c_fillI {l : Launch} {g : va_G} {ts : ClassId × ClassId × ClassId} {wf : St → va_W} {σ σ' : St} {k n q : Nat} {f : Nat → Int32} {v : Int32} (h1 : (wf σ)[k]? = some (q, .inl (ts.1, n, .inl f))) (h2 : (wf σ).set k (q, .inl (ts.1, n, .inl (fillA f n v))) = wf σ') (hn : n ≤ 2000000000) : ConV l g ts wf yJ7_fill_53178 cJ7_fill_53178 4 none (rk 0 0) σ [.ref q, .int v] σ' := by
  refine ConV_mk rfl rfl (by decide) (Nat.le_of_ble_eq_true rfl) ?_
  intro p e s m below meth c A Q ls C hQ hP hD hS hl
  have hx := C.1
  have hb := C.2.1
  have hl : lv_has ls 4 [(0, .ref q), (1, .int v)] := hl
  refine lv_iconst (v := 0) hx hb d_fi_0 (by decide) ?_
  refine lv_istore_n (lv' := [(2, .int 0), (0, .ref q), (1, .int v)]) hx hb d_fi_1 rfl hl (by decide) rfl (fun ls hl => ?_)
  refine lv_aload_n hx hb d_fi_2 rfl (lv_at hl 1 rfl) ?_
  refine va_alen (D := g) (v := nI n) hx hb C.2.2.2.2.2.2.1 hP k 0 h1 rfl rfl d_fi_3 ?_
  refine lv_istore_n (lv' := [(3, .int (nI n)), (2, .int 0), (0, .ref q), (1, .int v)]) hx hb d_fi_4 rfl hl (by decide) rfl (fun ls hl => ?_)
  refine w_fillI C hQ h1 h2 hn n 0 _ _ _ (by omega) ?_ ?_ hS (lv_sub hl [2, 3, 1, 0] rfl)
  · rw [fillA_0, set_same h1]; exact hP
  · rw [fillA_0, set_same h1]; exact hD
theorem d_fl_0 : decode cJ7_fill_d0a16 0 = .ok (.iconst 0, 1) := by decide +kernel
theorem d_fl_1 : decode cJ7_fill_d0a16 1 = .ok (.istore_n 3, 1) := by decide +kernel
theorem d_fl_2 : decode cJ7_fill_d0a16 2 = .ok (.aload_n 0, 1) := by decide +kernel
theorem d_fl_3 : decode cJ7_fill_d0a16 3 = .ok (.arraylength, 1) := by decide +kernel
theorem d_fl_4 : decode cJ7_fill_d0a16 4 = .ok (.istore 4, 2) := by decide +kernel
theorem d_fl_6 : decode cJ7_fill_d0a16 6 = .ok (.iload_n 3, 1) := by decide +kernel
theorem d_fl_7 : decode cJ7_fill_d0a16 7 = .ok (.iload 4, 2) := by decide +kernel
theorem d_fl_9 : decode cJ7_fill_d0a16 9 = .ok (.if_icmp .ge 13, 3) := by decide +kernel
theorem d_fl_12 : decode cJ7_fill_d0a16 12 = .ok (.aload_n 0, 1) := by decide +kernel
theorem d_fl_13 : decode cJ7_fill_d0a16 13 = .ok (.iload_n 3, 1) := by decide +kernel
theorem d_fl_14 : decode cJ7_fill_d0a16 14 = .ok (.lload_n 1, 1) := by decide +kernel
theorem d_fl_15 : decode cJ7_fill_d0a16 15 = .ok (.lastore, 1) := by decide +kernel
theorem d_fl_16 : decode cJ7_fill_d0a16 16 = .ok (.iinc 3 1, 3) := by decide +kernel
theorem d_fl_19 : decode cJ7_fill_d0a16 19 = .ok (.goto (-13), 3) := by decide +kernel
theorem d_fl_22 : decode cJ7_fill_d0a16 22 = .ok (.return_, 1) := by decide +kernel
theorem ms_fillL : MS yJ7_fill_d0a16 cJ7_fill_d0a16 5 none 2 := ⟨q_833, q_61, q_834, by decide +kernel, by decide +kernel, by decide +kernel⟩
set_option maxHeartbeats 4000000 in
theorem w_fillL {p : Program} {l : Launch} {e : Env} {s : State} {m : MethodId} {args : Array Value} {below : List Frame} {meth : Method} {c : Code} {g : va_G} {ts : ClassId × ClassId × ClassId} {A : Nat → Prop} {Q : State → Prop} {wf : St → va_W} {σ σ' : St} (C : FX p s m args meth c RJ7 cJ7_fill_d0a16 5 g ts A) (hQ : RetV p l e (rk 0 0) s m args below meth c cJ7_fill_d0a16 g wf A σ' Q) {k n q : Nat} {f : Nat → Int64} {v : Int64} (h1 : (wf σ)[k]? = some (q, .inl (ts.2.1, n, .inr (.inl f)))) (h2 : (wf σ).set k (q, .inl (ts.2.1, n, .inr (.inl (fillL f n v)))) = wf σ') (hn : n ≤ 2000000000) :
    ∀ (d i : Nat) (H : Heap) (locs : List Loc) (ls : Array Slot), i + d = n → va_P g classes ((wf σ).set k (q, .inl (ts.2.1, n, .inr (.inl (fillL f i v))))) H → va_D A ((wf σ).set k (q, .inl (ts.2.1, n, .inr (.inl (fillL f i v))))) → va_S A s.heap H locs → lv_has ls 5 [(0, .ref q), (1, .long v), (3, .int (nI i)), (4, .int (nI n))] → W p l e (rk 0 0) s m args below meth c H locs 0 0 Q (F0 m 6 ls []) := by
  have hx := C.1
  have hb := C.2.1
  have hlt : k < (wf σ).length := (List.getElem?_eq_some_iff.mp h1).1
  intro d
  induction d with
  | zero =>
    intro i H locs ls hi hP hD hS hl
    have hi : i = n := by omega
    subst hi
    refine lv_iload_n hx hb d_fl_6 rfl (lv_at hl 2 rfl) ?_
    refine lv_iload hx hb d_fl_7 (lv_at hl 3 rfl) ?_
    refine lv_icmp_ge (tgt := 22) hx hb d_fl_9 (by decide) (fun c1 => ?_) (fun c1 => ?_)
    · exact hQ H locs 22 ls d_fl_22 (by rw [← h2]; exact hP) (by rw [← h2]; exact hD) hS
    · exact absurd (Int32.le_refl _) c1
  | succ d ih =>
    intro i H locs ls hi hP hD hS hl
    refine lv_iload_n hx hb d_fl_6 rfl (lv_at hl 2 rfl) ?_
    refine lv_iload hx hb d_fl_7 (lv_at hl 3 rfl) ?_
    refine lv_icmp_ge (tgt := 22) hx hb d_fl_9 (by decide) (fun c1 => ?_) (fun c1 => ?_)
    · exact absurd c1 (nI_ge (by omega) (by omega))
    · refine lv_aload_n hx hb d_fl_12 rfl (lv_at hl 0 rfl) ?_
      refine lv_iload_n hx hb d_fl_13 rfl (lv_at hl 2 rfl) ?_
      refine lv_lload_n hx hb d_fl_14 rfl (lv_at hl 1 rfl) ?_
      refine va_last (D := g) hx hb C.2.2.2.2.2.2.1 hP hD hS k 1 (List.getElem?_set_self hlt) rfl (vp_in_nI (by omega) (by omega)) d_fl_15 (fun H locs hP hD hS => ?_)
      rw [List.set_set, nI_clamp (by omega), fillL_s] at hP hD
      refine lv_iinc (v := nI (i + 1)) (lv' := [(3, .int (nI (i + 1))), (0, .ref q), (1, .long v), (4, .int (nI n))]) hx hb d_fl_16 hl (k := 2) rfl (nI_1 i) (by decide) rfl (fun ls hl => ?_)
      refine lv_goto (tgt := 6) hx hb d_fl_19 (by decide) ?_
      exact ih (i + 1) _ _ _ (by omega) hP hD hS (lv_sub hl [1, 2, 0, 3] rfl)
set_option maxHeartbeats 4000000 in
theorem c_fillL {l : Launch} {g : va_G} {ts : ClassId × ClassId × ClassId} {wf : St → va_W} {σ σ' : St} {k n q : Nat} {f : Nat → Int64} {v : Int64} (h1 : (wf σ)[k]? = some (q, .inl (ts.2.1, n, .inr (.inl f)))) (h2 : (wf σ).set k (q, .inl (ts.2.1, n, .inr (.inl (fillL f n v)))) = wf σ') (hn : n ≤ 2000000000) : ConV l g ts wf yJ7_fill_d0a16 cJ7_fill_d0a16 5 none (rk 0 0) σ [.ref q, .long v] σ' := by
  refine ConV_mk rfl rfl (by decide) (Nat.le_of_ble_eq_true rfl) ?_
  intro p e s m below meth c A Q ls C hQ hP hD hS hl
  have hx := C.1
  have hb := C.2.1
  have hl : lv_has ls 5 [(0, .ref q), (1, .long v)] := hl
  refine lv_iconst (v := 0) hx hb d_fl_0 (by decide) ?_
  refine lv_istore_n (lv' := [(3, .int 0), (0, .ref q), (1, .long v)]) hx hb d_fl_1 rfl hl (by decide) rfl (fun ls hl => ?_)
  refine lv_aload_n hx hb d_fl_2 rfl (lv_at hl 1 rfl) ?_
  refine va_alen (D := g) (v := nI n) hx hb C.2.2.2.2.2.2.1 hP k 1 h1 rfl rfl d_fl_3 ?_
  refine lv_istore (lv' := [(4, .int (nI n)), (3, .int 0), (0, .ref q), (1, .long v)]) hx hb d_fl_4 hl (by decide) rfl (fun ls hl => ?_)
  refine w_fillL C hQ h1 h2 hn n 0 _ _ _ (by omega) ?_ ?_ hS (lv_sub hl [2, 3, 1, 0] rfl)
  · rw [fillL_0, set_same h1]; exact hP
  · rw [fillL_0, set_same h1]; exact hD
