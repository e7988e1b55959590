theorem dX5_enact_0 : decode cX5_enact 0 = .ok (.aload_n 0, 1) := by decide +kernel
theorem dX5_enact_1 : decode cX5_enact 1 = .ok (.getfield 44, 3) := by decide +kernel
theorem dX5_enact_4 : decode cX5_enact 4 = .ok (.astore_n 1, 1) := by decide +kernel
theorem dX5_enact_5 : decode cX5_enact 5 = .ok (.aload_n 0, 1) := by decide +kernel
theorem dX5_enact_6 : decode cX5_enact 6 = .ok (.aload_n 0, 1) := by decide +kernel
theorem dX5_enact_7 : decode cX5_enact 7 = .ok (.getfield 28, 3) := by decide +kernel
theorem dX5_enact_10 : decode cX5_enact 10 = .ok (.putfield 44, 3) := by decide +kernel
theorem dX5_enact_13 : decode cX5_enact 13 = .ok (.aload_n 0, 1) := by decide +kernel
theorem dX5_enact_14 : decode cX5_enact 14 = .ok (.aload_n 1, 1) := by decide +kernel
theorem dX5_enact_15 : decode cX5_enact 15 = .ok (.ifnonnull 13, 3) := by decide +kernel
theorem dX5_enact_18 : decode cX5_enact 18 = .ok (.new 25, 3) := by decide +kernel
theorem dX5_enact_21 : decode cX5_enact 21 = .ok (.dup, 1) := by decide +kernel
theorem dX5_enact_22 : decode cX5_enact 22 = .ok (.invokespecial 27, 3) := by decide +kernel
theorem dX5_enact_25 : decode cX5_enact 25 = .ok (.goto 4, 3) := by decide +kernel
theorem dX5_enact_28 : decode cX5_enact 28 = .ok (.aload_n 1, 1) := by decide +kernel
theorem dX5_enact_29 : decode cX5_enact 29 = .ok (.putfield 28, 3) := by decide +kernel
theorem dX5_enact_32 : decode cX5_enact 32 = .ok (.aload_n 0, 1) := by decide +kernel
theorem dX5_enact_33 : decode cX5_enact 33 = .ok (.getfield 35, 3) := by decide +kernel
theorem dX5_enact_36 : decode cX5_enact 36 = .ok (.iconst (-1), 1) := by decide +kernel
theorem dX5_enact_37 : decode cX5_enact 37 = .ok (.invokestatic 38, 3) := by decide +kernel
theorem dX5_enact_40 : decode cX5_enact 40 = .ok (.return_, 1) := by decide +kernel
theorem mv_X5_enact : MV yX5_enact cX5_enact 2 none 0 := ⟨q_650, q_651, q_59, q_652, by decide +kernel, by decide +kernel, by decide +kernel⟩
theorem dX11_law_0 : decode cX11_law 0 = .ok (.aload_n 0, 1) := by decide +kernel
theorem dX11_law_1 : decode cX11_law 1 = .ok (.getfield 51, 3) := by decide +kernel
theorem dX11_law_4 : decode cX11_law 4 = .ok (.aload_n 0, 1) := by decide +kernel
theorem dX11_law_5 : decode cX11_law 5 = .ok (.getfield 10, 3) := by decide +kernel
theorem dX11_law_8 : decode cX11_law 8 = .ok (.getfield 139, 3) := by decide +kernel
theorem dX11_law_11 : decode cX11_law 11 = .ok (.invokevirtual 143, 3) := by decide +kernel
theorem dX11_law_14 : decode cX11_law 14 = .ok (.istore_n 1, 1) := by decide +kernel
theorem dX11_law_15 : decode cX11_law 15 = .ok (.aload_n 0, 1) := by decide +kernel
theorem dX11_law_16 : decode cX11_law 16 = .ok (.getfield 51, 3) := by decide +kernel
theorem dX11_law_19 : decode cX11_law 19 = .ok (.iconst 0, 1) := by decide +kernel
theorem dX11_law_20 : decode cX11_law 20 = .ok (.putfield 136, 3) := by decide +kernel
theorem dX11_law_23 : decode cX11_law 23 = .ok (.iload_n 1, 1) := by decide +kernel
theorem dX11_law_24 : decode cX11_law 24 = .ok (.ifCond .lt 8, 3) := by decide +kernel
theorem dX11_law_27 : decode cX11_law 27 = .ok (.bipush (-100), 2) := by decide +kernel
theorem dX11_law_29 : decode cX11_law 29 = .ok (.iload_n 1, 1) := by decide +kernel
theorem dX11_law_30 : decode cX11_law 30 = .ok (.isub, 1) := by decide +kernel
theorem dX11_law_31 : decode cX11_law 31 = .ok (.ireturn, 1) := by decide +kernel
theorem dX11_law_32 : decode cX11_law 32 = .ok (.aload_n 0, 1) := by decide +kernel
theorem dX11_law_33 : decode cX11_law 33 = .ok (.getfield 10, 3) := by decide +kernel
theorem dX11_law_36 : decode cX11_law 36 = .ok (.invokevirtual 147, 3) := by decide +kernel
theorem dX11_law_39 : decode cX11_law 39 = .ok (.iconst 1, 1) := by decide +kernel
theorem dX11_law_40 : decode cX11_law 40 = .ok (.ireturn, 1) := by decide +kernel
theorem mv_X11_law : MV yX11_law cX11_law 2 (some .int) 0 := ⟨q_517, q_518, q_58, q_519, by decide +kernel, by decide +kernel, by decide +kernel⟩
def baseV (ts : ClassId × ClassId × ClassId) (a : Nat → Nat) (σ : St) (v1 v2 v3 v4 v5 : Value) : va_W := [(a 0, .inr (11, [.ref (a 2), .ref (a 8), .ref (a 12), .ref (a 15), .ref (a 17), .ref (a 20), .ref (a 22), .ref (a (30 + 3 * 0)), .ref (a (30 + 3 * 1)), .ref (a 27), .ref (a 1), .int (σ.1 561 0)])),
  (a 1, .inl (ts.2.2, 6, .inr (.inr (.inr (.inr (fun j => some (a (36 + 2 * j)))))))),
  (a 2, .inr (5, [.ref (a 3), .ref (a 4), .ref (a 5), .int (σ.1 253 0), v1, v2, .ref (a 6), .ref (a 7)])),
  (a 3, .inl (ts.1, 144, .inl (σ.2.2.1 250 0))),
  (a 4, .inl (ts.1, 12, .inl (σ.2.2.1 251 0))),
  (a 5, .inl (ts.1, 12, .inl (σ.2.2.1 252 0))),
  (a 6, .inl (ts.1, 1440, .inl (σ.2.2.1 256 0))),
  (a 7, .inl (ts.1, 120, .inl (σ.2.2.1 257 0))),
  (a 8, .inr (6, [.ref (a 9), .ref (a 10), .ref (a 11), .int (σ.1 303 0)])),
  (a 9, .inl (ts.1, 60, .inl (σ.2.2.1 300 0))),
  (a 10, .inl (ts.1, 10, .inl (σ.2.2.1 301 0))),
  (a 11, .inl (ts.1, 10, .inl (σ.2.2.1 302 0))),
  (a 12, .inr (9, [.ref (a 8), .ref (a 2), .ref (a 13), .ref (a 14)])),
  (a 13, .inl (ts.1, 6, .inl (σ.2.2.1 452 0))),
  (a 14, .inl (ts.1, 6, .inl (σ.2.2.1 453 0))),
  (a 15, .inr (3, [.ref (a 8), .ref (a 2), .ref (a 16), .long (σ.2.1 153 0)])),
  (a 16, .inl (ts.2.1, 10, .inr (.inl (σ.2.2.2.1 152 0)))),
  (a 17, .inr (2, [.ref (a 2), v4, v5, .long (σ.2.1 103 0)])),
  (a (18 + 0), .inl (ts.2.1, 45, .inr (.inl (σ.2.2.2.1 101 0)))),
  (a (18 + 1), .inl (ts.2.1, 45, .inr (.inl (σ.2.2.2.1 101 1)))),
  (a 20, .inr (7, [.ref (a 21), .int (σ.1 351 0), .int (σ.1 352 0), v3])),
  (a 21, .inl (ts.1, 120, .inl (σ.2.2.1 350 0))),
  (a 22, .inr (0, [.ref (a 23), .ref (a 24), .ref (a 25), .ref (a 26), .int (σ.1 4 0), .int (σ.1 5 0), .int (σ.1 6 0)])),
  (a 23, .inl (ts.1, 40, .inl (σ.2.2.1 0 0))),
  (a 24, .inl (ts.1, 40, .inl (σ.2.2.1 1 0))),
  (a 25, .inl (ts.1, 40, .inl (σ.2.2.1 2 0))),
  (a 26, .inl (ts.1, 40, .inl (σ.2.2.1 3 0))),
  (a 27, .inr (10, [.ref (a 28), .ref (a 29), .int (σ.1 502 0), .int (σ.1 503 0)])),
  (a 28, .inl (ts.1, 50, .inl (σ.2.2.1 500 0))),
  (a 29, .inl (ts.1, 24, .inl (σ.2.2.1 501 0))),
  (a (30 + 3 * 0), .inr (1, [.ref (a (30 + 3 * 0 + 1)), .ref (a (30 + 3 * 0 + 2)), .int (σ.1 52 0), .int (σ.1 53 0), .int (σ.1 54 0), .int (σ.1 55 0), .int (σ.1 56 0), .int (σ.1 57 0)])),
  (a (30 + 3 * 0 + 1), .inl (ts.1, 6, .inl (σ.2.2.1 50 0))),
  (a (30 + 3 * 0 + 2), .inl (ts.1, 6, .inl (σ.2.2.1 51 0))),
  (a (30 + 3 * 1), .inr (1, [.ref (a (30 + 3 * 1 + 1)), .ref (a (30 + 3 * 1 + 2)), .int (σ.1 52 1), .int (σ.1 53 1), .int (σ.1 54 1), .int (σ.1 55 1), .int (σ.1 56 1), .int (σ.1 57 1)])),
  (a (30 + 3 * 1 + 1), .inl (ts.1, 6, .inl (σ.2.2.1 50 1))),
  (a (30 + 3 * 1 + 2), .inl (ts.1, 6, .inl (σ.2.2.1 51 1))),
  (a (36 + 2 * 0), .inr (8, [.ref (a (36 + 2 * 0 + 1)), .int (σ.1 401 0), .int (σ.1 402 0), .int (σ.1 403 0)])),
  (a (36 + 2 * 0 + 1), .inl (ts.2.1, 60, .inr (.inl (σ.2.2.2.1 400 0)))),
  (a (36 + 2 * 1), .inr (8, [.ref (a (36 + 2 * 1 + 1)), .int (σ.1 401 1), .int (σ.1 402 1), .int (σ.1 403 1)])),
  (a (36 + 2 * 1 + 1), .inl (ts.2.1, 60, .inr (.inl (σ.2.2.2.1 400 1)))),
  (a (36 + 2 * 2), .inr (8, [.ref (a (36 + 2 * 2 + 1)), .int (σ.1 401 2), .int (σ.1 402 2), .int (σ.1 403 2)])),
  (a (36 + 2 * 2 + 1), .inl (ts.2.1, 60, .inr (.inl (σ.2.2.2.1 400 2)))),
  (a (36 + 2 * 3), .inr (8, [.ref (a (36 + 2 * 3 + 1)), .int (σ.1 401 3), .int (σ.1 402 3), .int (σ.1 403 3)])),
  (a (36 + 2 * 3 + 1), .inl (ts.2.1, 60, .inr (.inl (σ.2.2.2.1 400 3)))),
  (a (36 + 2 * 4), .inr (8, [.ref (a (36 + 2 * 4 + 1)), .int (σ.1 401 4), .int (σ.1 402 4), .int (σ.1 403 4)])),
  (a (36 + 2 * 4 + 1), .inl (ts.2.1, 60, .inr (.inl (σ.2.2.2.1 400 4)))),
  (a (36 + 2 * 5), .inr (8, [.ref (a (36 + 2 * 5 + 1)), .int (σ.1 401 5), .int (σ.1 402 5), .int (σ.1 403 5)])),
  (a (36 + 2 * 5 + 1), .inl (ts.2.1, 60, .inr (.inl (σ.2.2.2.1 400 5))))]
theorem baseC_V {ts : ClassId × ClassId × ClassId} {a : Nat → Nat} {σ : St} : baseC ts a σ = baseV ts a σ (lawv a (σ.2.2.2.2 254)) (lawv a (σ.2.2.2.2 255)) (lawv a (σ.2.2.2.2 353)) (.ref (a (18 + σ.2.2.2.2 101))) (.ref (a (18 + σ.2.2.2.2 102))) := rfl
def newLaw (σ : St) : St := sR (sI (sA (sA (sA σ 200 1 (fun _ => 0)) 201 1 (fun _ => 0)) 202 1 (fun _ => 0)) 203 1 0) 0 2
def keepA (a a' : Nat → Nat) : Prop := ∀ k, k < 52 → a' k = a k
theorem lawv_same {a a' : Nat → Nat} {r : Nat} (h : r ≤ 1) (h48 : a' 48 = a 48) : lawv a' r = lawv a r := by
  rcases (show r = 0 ∨ r = 1 by omega) with rfl | rfl
  · rfl
  · show Value.ref (a' 48) = Value.ref (a 48)
    rw [h48]
def ext4 (a : Nat → Nat) (q q1 q2 q3 : Nat) : Nat → Nat := fun k => if k = 52 then q else if k = 53 then q1 else if k = 54 then q2 else if k = 55 then q3 else a k
theorem ext4_keep {a : Nat → Nat} {q q1 q2 q3 : Nat} : keepA a (ext4 a q q1 q2 q3) := by
  intro k hk
  unfold ext4
  rw [if_neg (by omega), if_neg (by omega), if_neg (by omega), if_neg (by omega)]
theorem va_P_swap {D : va_G} {cl : List vw_C} {ws : va_W} {H : Heap} {k q : Nat} {e e' : va_E} (hP : va_P D cl ws H) (h : ws[k]? = some (q, e)) (he : va_at D cl (q, e') H) : va_P D cl (ws.set k (q, e')) H := by
  intro i x hx
  by_cases hi : k = i
  · subst hi
    rw [List.getElem?_set_self (List.getElem?_eq_some_iff.mp h).1] at hx
    cases hx
    exact he
  · rw [List.getElem?_set_ne hi] at hx
    exact hP i x hx
theorem arrV_congr {cA : ClassId} {n : Nat} {f f' : Nat → Value} (h : ∀ j, j < n → f j = f' j) : arrV cA n f = arrV cA n f' := by
  unfold arrV
  congr 2
  funext j
  exact h j.val j.isLt
set_option maxRecDepth 100000 in
set_option maxHeartbeats 4000000 in
theorem baseV_ext {ts : ClassId × ClassId × ClassId} {a : Nat → Nat} {σ : St} {q q1 q2 q3 : Nat} {v1 v2 v3 v4 v5 : Value} : baseV ts (ext4 a q q1 q2 q3) (newLaw σ) v1 v2 v3 v4 v5 = (baseV ts a σ v1 v2 v3 v4 v5).set 1 (a 1, .inl (ts.2.2, 6, .inr (.inr (.inr (.inr (fun j => some (ext4 a q q1 q2 q3 (36 + 2 * j)))))))) := rfl
set_option maxRecDepth 100000 in
set_option maxHeartbeats 4000000 in
theorem newLawE {ts : ClassId × ClassId × ClassId} {a : Nat → Nat} {σ : St} {q q1 q2 q3 : Nat} (h0 : ¬ σ.2.2.2.2 0 = 2) (h1 : σ.2.2.2.2 254 ≤ 1) (h2 : σ.2.2.2.2 255 ≤ 1) (h3 : σ.2.2.2.2 353 ≤ 1) (h4 : σ.2.2.2.2 101 < 2) (h5 : σ.2.2.2.2 102 < 2) : WC ts (ext4 a q q1 q2 q3) (newLaw σ) = (WC ts a σ ++ ([(q, .inr (4, [.ref q1, .ref q2, .ref q3, .int 0])), (q1, .inl (ts.1, 128, .inl (fun _ => 0))), (q2, .inl (ts.1, 129, .inl (fun _ => 0))), (q3, .inl (ts.1, 6, .inl (fun _ => 0)))] : va_W)).set 1 (a 1, .inl (ts.2.2, 6, .inr (.inr (.inr (.inr (fun j => some (ext4 a q q1 q2 q3 (36 + 2 * j)))))))) := by
  have k : ∀ r, r ≤ 1 → lawv (ext4 a q q1 q2 q3) r = lawv a r := fun r hr => lawv_same hr (ext4_keep 48 (by decide))
  have eb : baseC ts (ext4 a q q1 q2 q3) (newLaw σ) = (baseC ts a σ).set 1 (a 1, .inl (ts.2.2, 6, .inr (.inr (.inr (.inr (fun j => some (ext4 a q q1 q2 q3 (36 + 2 * j)))))))) := by
    rw [baseC_V, baseC_V]
    show baseV ts (ext4 a q q1 q2 q3) (newLaw σ) (lawv (ext4 a q q1 q2 q3) (σ.2.2.2.2 254)) (lawv (ext4 a q q1 q2 q3) (σ.2.2.2.2 255)) (lawv (ext4 a q q1 q2 q3) (σ.2.2.2.2 353)) (.ref (ext4 a q q1 q2 q3 (18 + σ.2.2.2.2 101))) (.ref (ext4 a q q1 q2 q3 (18 + σ.2.2.2.2 102))) = _
    rw [k _ h1, k _ h2, k _ h3, ext4_keep (18 + σ.2.2.2.2 101) (by omega), ext4_keep (18 + σ.2.2.2.2 102) (by omega)]
    exact baseV_ext
  have e0 : lawC0 ts (ext4 a q q1 q2 q3) (newLaw σ) = lawC0 ts a σ := rfl
  have e1 : lawC1 ts (ext4 a q q1 q2 q3) (newLaw σ) = [(q, .inr (4, [.ref q1, .ref q2, .ref q3, .int 0])), (q1, .inl (ts.1, 128, .inl (fun _ => 0))), (q2, .inl (ts.1, 129, .inl (fun _ => 0))), (q3, .inl (ts.1, 6, .inl (fun _ => 0)))] := rfl
  unfold WC
  rw [if_neg h0, if_pos (show (newLaw σ).2.2.2.2 0 = 2 from rfl), eb, e0, e1, List.append_nil, List.append_assoc]
  exact (List.set_append_left _ _ (by show 1 < (baseC ts a σ).length; exact Nat.lt_of_sub_eq_succ (show (baseC ts a σ).length - 1 = 46 + 1 from rfl))).symm
theorem newLawW {g : va_G} {ts : ClassId × ClassId × ClassId} {a : Nat → Nat} {σ : St} {H : Heap} {A : Nat → Prop} {q q1 q2 q3 : Nat} (h0 : ¬ σ.2.2.2.2 0 = 2) (h1 : σ.2.2.2.2 254 ≤ 1) (h2 : σ.2.2.2.2 255 ≤ 1) (h3 : σ.2.2.2.2 353 ≤ 1) (h4 : σ.2.2.2.2 101 < 2) (h5 : σ.2.2.2.2 102 < 2)
    (hP : va_P g classes (WC ts a σ ++ ([(q, .inr (4, [.ref q1, .ref q2, .ref q3, .int 0])), (q1, .inl (ts.1, 128, .inl (fun _ => 0))), (q2, .inl (ts.1, 129, .inl (fun _ => 0))), (q3, .inl (ts.1, 6, .inl (fun _ => 0)))] : va_W)) H) (hD : va_D A (WC ts a σ ++ ([(q, .inr (4, [.ref q1, .ref q2, .ref q3, .int 0])), (q1, .inl (ts.1, 128, .inl (fun _ => 0))), (q2, .inl (ts.1, 129, .inl (fun _ => 0))), (q3, .inl (ts.1, 6, .inl (fun _ => 0)))] : va_W))) :
    ∃ a' : Nat → Nat, keepA a a' ∧ a' 52 = q ∧ va_P g classes (WC ts a' (newLaw σ)) H ∧ va_D A (WC ts a' (newLaw σ)) := by
  have hat := hP 1 _ rfl
  refine ⟨ext4 a q q1 q2 q3, ext4_keep, rfl, ?_, ?_⟩
  · rw [newLawE h0 h1 h2 h3 h4 h5]
    refine va_P_swap hP rfl ?_
    have hat2 : H[a 1]? = some (vp_cell ts.2.2 (6, .inr (.inr (.inr (.inr (fun j => some (a (36 + 2 * j)))))))) := hat
    show H[a 1]? = some (vp_cell ts.2.2 (6, .inr (.inr (.inr (.inr (fun j => some (ext4 a q q1 q2 q3 (36 + 2 * j))))))))
    rw [hat2, vp_cell_q, vp_cell_q]
    exact congrArg some (arrV_congr (fun j hj => by
      show Value.ref (a (36 + 2 * j)) = Value.ref (ext4 a q q1 q2 q3 (36 + 2 * j))
      rw [ext4_keep (36 + 2 * j) (by omega)]))
  · rw [newLawE h0 h1 h2 h3 h4 h5]
    exact hD.set rfl
/-! contracts of what may make a Law -/
def PreA (g : va_G) (ts : ClassId × ClassId × ClassId) (a : Nat → Nat) (σ : St) (sz : Nat) : State → Prop := fun U => PreW g ts (WC ts a) σ sz U ∧ va_AO "AsInBertha$Shelf" U
def PostA (g : va_G) (ts : ClassId × ClassId × ClassId) (a : Nat → Nat) (σ : St) (sz : Nat) : St × (Nat → Nat) → State → Prop := fun u t => va_P g classes (WC ts u.2 u.1) t.heap ∧ va_D (va_A (WC ts a σ) sz) (WC ts u.2 u.1)
def ConAV (l : Launch) (g : va_G) (ts : ClassId × ClassId × ClassId) (y : MethodName) (cc : ByteArray) (nL : Nat) (rm : Room) (a : Nat → Nat) (σ : St) (av : List Value) (σ' : St) : Prop := rm.cells = 4 ∧ rm.slots = 267 ∧ ∀ sz, Met l y (.code y cc nL none :: uw) rm (va_Pc av (PreA g ts a σ sz)) (va_Qv (fun (u : St × (Nat → Nat)) => u.1 = σ' ∧ keepA a u.2) (PostA g ts a σ sz) (va_A (WC ts a σ) sz)) 4 267 (va_A (WC ts a σ) sz)
def ConAI (l : Launch) (g : va_G) (ts : ClassId × ClassId × ClassId) (y : MethodName) (cc : ByteArray) (nL : Nat) (rm : Room) (a : Nat → Nat) (σ : St) (av : List Value) (r : Int32) (σ' : St) : Prop := rm.cells = 4 ∧ rm.slots = 267 ∧ ∀ sz, Met l y (.code y cc nL (some .int) :: uw) rm (va_Pc av (PreA g ts a σ sz)) (va_Qi (fun (r' : Int32) (u : St × (Nat → Nat)) => r' = r ∧ u.1 = σ' ∧ keepA a u.2) (PostA g ts a σ sz) (va_A (WC ts a σ) sz)) 4 267 (va_A (WC ts a σ) sz)
section ACALL
variable {p : Program} {l : Launch} {e : Env} {R : Room} {s : State} {m : MethodId} {args : Array Value} {below : List Frame} {meth : Method} {c : Code} {H : Heap} {locs : List Loc} {cells slots : Nat} {Q : State → Prop}
variable {own : String} {cc : ByteArray} {nL : Nat} {g : va_G} {ts : ClassId × ClassId × ClassId} {A : Nat → Prop} {a : Nat → Nat} {σ σ' : St} {y : MethodName} {bytes : ByteArray} {maxL n index pc b : Nat} {ret : Option FieldType} {rm : Room} {rest st0 As : List Value} {ls : Array Slot} {r : Int32}
theorem ac_pre (hE : EnvX g ts A s s.heap) (hO : va_AO "AsInBertha$Shelf" s) (hP : va_P g classes (WC ts a σ) H) (hD : va_D A (WC ts a σ)) (hS : va_S A s.heap H locs) (hA : ∀ q, s.heap.size ≤ q → A q) (av : List Value) : ∀ U : State, U.heap = H → s.WarmedH U.vm → va_Pc av (PreA g ts a σ H.size) av.toArray U := fun U hU hW => ⟨rfl, (cl_pre (wf := WC ts a) hE hP hD hS hA av U hU hW).2, va_AO.moved hW.alike hO⟩
theorem ac_blind (av : List Value) (sz : Nat) : FrameBlind (va_Pc av (PreA g ts a σ sz)) := fun a U f mk q => ⟨q.1, ⟨q.2.1.1, q.2.1.2.1, q.2.1.2.2.1, q.2.1.2.2.2.calling⟩, va_AO.moved (u := U) (U := U.calling f mk a) (Vm.Alike.refl U.vm) q.2.2⟩
theorem ac_V (C : FX p s m args meth c own cc nL g ts A) (hO : va_AO "AsInBertha$Shelf" s) (hP : va_P g classes (WC ts a σ) H) (hD : va_D A (WC ts a σ)) (hS : va_S A s.heap H locs) (As : List Value) {Qc : Array Value → State → Outcome → State → Prop} (hc0 : rm.cells = 4) (hs0 : rm.slots = 267) (hM : Met l y (.code y bytes maxL ret :: uw) rm (va_Pc (.ref b :: As) (PreA g ts a σ H.size)) Qc 4 267 (va_A (WC ts a σ) H.size))
    (hY : MV y bytes maxL ret n) (hl : Cond.methodLink own index y ∈ uw) (hrec : RV (WC ts a) σ b y.cls) (hR : rm.frames + 1 ≤ R.frames ∧ 8 + (maxL + 11) + rm.locals ≤ R.locals) (hcs : cells + 4 ≤ R.cells ∧ slots + 267 ≤ R.slots) (hn : As.length = n) (hstk : st0 = As.reverse ++ .ref b :: rest) (hcat : (rest.map fun v => v.category).sum ≤ 8) (hsz : ls.size = nL) (hdg : decode cc pc = .ok (.invokevirtual index, 3)) :
    va_Run p l e R s m args below meth c H locs cells slots 4 267 (F0 m pc ls st0) rest (Qc (Value.ref b :: As).toArray) (va_A (WC ts a σ) H.size) := by
  obtain ⟨hx, hb, hml, hown, hts, hA, hE⟩ := C
  obtain ⟨m1, m2, m3, m4, d1, d2, d3⟩ := hY
  obtain ⟨q0, ci, fs, T, N, h1, h3⟩ := hrec
  have hw : GoodIn uw (wsV own index y.cls y (.code y bytes maxL ret :: uw)) := cl_ws [.methodLink own index y, .instanceMethod y, .selects y.cls y y, .initialized y.cls] (fun w hw => by
    simp only [List.mem_cons, List.not_mem_nil, or_false] at hw
    rcases hw with rfl | rfl | rfl | rfl
    · exact hl
    · exact m1
    · exact m2
    · exact m3) m4
  exact va_runV (As := As) (rest := rest) ⟨hx, hb, hml, hown, hts⟩ hM (cwV n hts hw rfl hc0 hs0 ⟨rfl, d1, d2, d3⟩ hR) ⟨ac_blind _ _, va_recv hE.1 hP h1 h3, ac_pre hE hO hP hD hS hA (.ref b :: As)⟩ rfl hn hsz hstk (lv_room hcat) hdg hcs
theorem aV (rest : List Value) (C : FX p s m args meth c own cc nL g ts A) (hO : va_AO "AsInBertha$Shelf" s) (hP : va_P g classes (WC ts a σ) H) (hD : va_D A (WC ts a σ)) (hS : va_S A s.heap H locs) (hM : ConAV l g ts y bytes maxL rm a σ (.ref b :: As) σ') (hY : MV y bytes maxL none n) (hl : Cond.methodLink own index y ∈ uw) (hrec : RV (WC ts a) σ b y.cls) (hdg : decode cc pc = .ok (.invokevirtual index, 3)) (hR : rm.frames + 1 ≤ R.frames ∧ 8 + (maxL + 11) + rm.locals ≤ R.locals) (hcs : cells + 4 ≤ R.cells ∧ slots + 267 ≤ R.slots) (hn : As.length = n) (hstk : st0 = As.reverse ++ .ref b :: rest) (hcat : (rest.map fun v => v.category).sum ≤ 8) (hsz : ls.size = nL)
    (kk : ∀ (a' : Nat → Nat) (H1 : Heap) (locs1 : List Loc), keepA a a' → va_P g classes (WC ts a' σ') H1 → va_D A (WC ts a' σ') → va_S A s.heap H1 locs1 → W p l e R s m args below meth c H1 locs1 (cells + 4) (slots + 267) Q (F0 m (pc + 3) ls rest)) : W p l e R s m args below meth c H locs cells slots Q (F0 m pc ls st0) := by
  have hFc := cl_free (wf := WC ts a) hD hS C.2.2.2.2.2.1
  refine va_callv (ac_V C hO hP hD hS As hM.1 hM.2.1 (hM.2.2 _) hY hl hrec hR hcs hn hstk hcat hsz hdg) hS (fun q _ h => hFc q h) hFc (fun u t H1 locs1 ht hvm hw hB hz1 hk1 hS1 => ?_)
  obtain ⟨u1, u2⟩ := u
  obtain ⟨hw1, hw2⟩ := hw
  dsimp only at hw1 hw2
  subst hw1
  obtain ⟨hP1, hD1⟩ := hB
  rw [ht] at hP1
  exact kk u2 H1 locs1 hw2 hP1 (hD1.weaken (fun _ q _ h => hFc q.1 h)) hS1
theorem aI (rest : List Value) (C : FX p s m args meth c own cc nL g ts A) (hO : va_AO "AsInBertha$Shelf" s) (hP : va_P g classes (WC ts a σ) H) (hD : va_D A (WC ts a σ)) (hS : va_S A s.heap H locs) (hM : ConAI l g ts y bytes maxL rm a σ (.ref b :: As) r σ') (hY : MV y bytes maxL (some .int) n) (hl : Cond.methodLink own index y ∈ uw) (hrec : RV (WC ts a) σ b y.cls) (hdg : decode cc pc = .ok (.invokevirtual index, 3)) (hR : rm.frames + 1 ≤ R.frames ∧ 8 + (maxL + 11) + rm.locals ≤ R.locals) (hcs : cells + 4 ≤ R.cells ∧ slots + 267 ≤ R.slots) (hn : As.length = n) (hstk : st0 = As.reverse ++ .ref b :: rest) (hcat : (rest.map fun v => v.category).sum ≤ 8) (hsz : ls.size = nL)
    (kk : ∀ (a' : Nat → Nat) (H1 : Heap) (locs1 : List Loc), keepA a a' → va_P g classes (WC ts a' σ') H1 → va_D (va_A (WC ts a σ) H.size) (WC ts a' σ') → (∀ q : Nat, q < H.size → ¬ va_A (WC ts a σ) H.size q → H1[q]? = H[q]?) → va_S A s.heap H1 locs1 → W p l e R s m args below meth c H1 locs1 (cells + 4) (slots + 267) Q (F0 m (pc + 3) ls (.int r :: rest))) : W p l e R s m args below meth c H locs cells slots Q (F0 m pc ls st0) := by
  have hFc := cl_free (wf := WC ts a) hD hS C.2.2.2.2.2.1
  refine va_calli (ac_V C hO hP hD hS As hM.1 hM.2.1 (hM.2.2 _) hY hl hrec hR hcs hn hstk hcat hsz hdg) hS (fun q _ h => hFc q h) hFc (fun r1 u t H1 locs1 ht hvm hw hB hz1 hk1 hS1 => ?_)
  obtain ⟨u1, u2⟩ := u
  obtain ⟨hw0, hw1, hw2⟩ := hw
  dsimp only at hw1 hw2
  subst hw0 hw1
  obtain ⟨hP1, hD1⟩ := hB
  rw [ht] at hP1
  exact kk u2 H1 locs1 hw2 hP1 hD1 hk1 hS1
end ACALL
def f_X5_enact (σ : St) : Option St := derefL σ (σ.2.2.2.2 255) (fun j => if σ.2.2.2.2 254 = 0 then (chk (σ.2.2.2.2 0 = 2) (chk (1 < σ.2.2.2.2 353) (chk (2 ≤ σ.2.2.2.2 101) (chk (2 ≤ σ.2.2.2.2 102) (bnd (sR (newLaw (sR σ 254 (j + 1))) 255 (1 + 1)) (fun z => some (sA z 257 0 (fillA (z.2.2.1 257 0) 120 (-1))))))))) else (bnd (sR (sR σ 254 (j + 1)) 255 (σ.2.2.2.2 254 - 1 + 1)) (fun z => some (sA z 257 0 (fillA (z.2.2.1 257 0) 120 (-1))))))
set_option maxHeartbeats 4000000 in
set_option maxRecDepth 100000 in
theorem c_X5_enact {l : Launch} {g : va_G} {ts : ClassId × ClassId × ClassId} {a : Nat → Nat} {σ σ' : St} (hf : f_X5_enact σ = some σ') : ConAV l g ts yX5_enact cX5_enact 2 ({ frames := 2, cells := 4, slots := 267, locals := 60 } : Room) a σ [.ref (a 2)] σ' := by
  refine ⟨rfl, rfl, fun sz => ?_⟩
  refine Met.ofW (cc := cX5_enact) (maxL := 2) (ret := none) (by decide) rfl ?_
  intro p e s m args below meth c s₁ B hml hv
  obtain ⟨rfl, ⟨rfl, hP, hD0, hE⟩, hO⟩ := hv
  have hl := lv_entry [Value.ref (a 2)] (n := 2) (Nat.le_of_ble_eq_true rfl)
  rw [lg_entry_eq]
  generalize (lg_sl [Value.ref (a 2)] ++ List.replicate (2 - (lg_sl [Value.ref (a 2)]).length) Slot.unset).toArray = ls at hl ⊢
  have hl : lv_has ls 2 [(0, .ref (a 2))] := hl
  have hD := hD0.self (sz := s.heap.size)
  generalize hAe : va_A (WC ts a σ) s.heap.size = A at hD hE ⊢
  have hA : ∀ q : Nat, s.heap.size ≤ q → A q := fun q h => by rw [← hAe]; exact Or.inr h
  have hS : va_S A s.heap s.heap [] := va_S.rf
  have hx := B.exec
  have hb := B.bytes
  have hown : s.vm.findClass RX5 = some m.cls := findClass_of_methodNamed B.named
  have hts : ∀ w ∈ uw, w.before #[Value.ref (a 2)] s = true := fun w hw => atoms_spec B.pre w (List.mem_cons_of_mem _ hw)
  have C : FX p s m #[Value.ref (a 2)] meth c RX5 cX5_enact 2 g ts A := ⟨hx, hb, hml, hown, hts, hA, hE⟩
  have hK := hE.1
  have hQ : ∀ (H : Heap) (locs : List Loc) (pc : Nat) (ls : Array Slot) (a' : Nat → Nat), keepA a a' → decode cX5_enact pc = .ok (.return_, 1) → va_P g classes (WC ts a' σ') H → va_D A (WC ts a' σ') → va_S A s.heap H locs → W p l e ({ frames := 2, cells := 4, slots := 267, locals := 60 } : Room) s m #[Value.ref (a 2)] below meth c H locs 4 267 (MQ below (va_Qv (fun (u : St × (Nat → Nat)) => u.1 = σ' ∧ keepA a u.2) (PostA g ts a σ s.heap.size) A) #[Value.ref (a 2)] s 4 267 A) (F0 m pc ls []) := by
    intro H locs pc ls a' hk hd hP' hD' hS'
    exact W.vret B.exec B.bytes B.returns (fun t ht hW => ⟨⟨(σ', a'), rfl, ⟨rfl, hk⟩, by show va_P g classes (WC ts a' σ') t.heap; rw [ht]; exact hP', by show va_D (va_A (WC ts a σ) s.heap.size) (WC ts a' σ'); rw [hAe]; exact hD'⟩, hS'.F ht⟩) hS'.2.2 hd B.notSynchronized
  unfold f_X5_enact at hf
  obtain ⟨j, ej, hj, hf⟩ := derefL_some hf
  refine lv_aload_n hx hb dX5_enact_0 rfl (lv_at hl 0 rfl) ?_
  refine G_X5_law C hP q_127 dX5_enact_1 ?_
  by_cases c0 : σ.2.2.2.2 254 = 0
  · replace hf := ipos c0 hf
    obtain ⟨n0, hf⟩ := chk_some hf
    obtain ⟨n3, hf⟩ := chk_some hf
    obtain ⟨n4, hf⟩ := chk_some hf
    obtain ⟨n5, hf⟩ := chk_some hf
    have hj0 : j = 0 := by
      rcases hj with h | ⟨_, h⟩
      · exact h
      · exact absurd h n0
    subst hj0
    rw [lawv_0 c0]
    refine lv_astore_nN (lv' := [(1, .null), (0, .ref (a 2))]) hx hb dX5_enact_4 rfl hl (by decide) rfl (fun ls hl => ?_)
    refine lv_aload_n hx hb dX5_enact_5 rfl (lv_at hl 1 rfl) ?_
    refine lv_aload_n hx hb dX5_enact_6 rfl (lv_at hl 1 rfl) ?_
    refine G_X5_draft C hP q_128 dX5_enact_7 ?_
    rw [lawv_s ej]
    refine S_X5_law C hP hD hS q_127 dX5_enact_10 (fun H locs hP hD hS => ?_)
    refine lv_aload_n hx hb dX5_enact_13 rfl (lv_at hl 1 rfl) ?_
    refine lv_aload_nN hx hb dX5_enact_14 rfl (lv_at hl 0 rfl) ?_
    refine lv_ifnonnullN hx hb dX5_enact_15 ?_
    refine va_new (ci := 4) (fs := [.null, .null, .null, .int 0]) (C := RX4) (T := TX4) (N := 4) hx hb hts inU4 tyX4 tyX4_ok hown (hts _ q_93) (hts _ q_94) (hts _ q_60) hK hP hD hS hA rfl (fun j hj => by rcases (show j = 0 ∨ j = 1 ∨ j = 2 ∨ j = 3 by omega) with rfl | rfl | rfl | rfl <;> rfl) (Nat.le_of_ble_eq_true rfl) (Nat.le_of_ble_eq_true rfl) dX5_enact_18 (fun q H hP hD hS => ?_)
    refine lv_dup hx hb dX5_enact_21 rfl ?_
    refine gIN (host := RX11) [.ref q, .ref (a 2)] C hO hP hD hS c_X4_init mi_X4_init (by decide +kernel) dX5_enact_22 ⟨Nat.le_of_ble_eq_true rfl, Nat.le_of_ble_eq_true rfl⟩ ⟨Nat.le_of_ble_eq_true rfl, Nat.le_of_ble_eq_true rfl⟩ rfl rfl (Nat.le_of_ble_eq_true rfl) hl.1 (fun w H locs hw hP hD hS => ?_)
    obtain ⟨q1, q2, q3, rfl⟩ := hw
    obtain ⟨a', hk, h52, hP, hD⟩ := newLawW (show ¬ (sR σ 254 (0 + 1)).2.2.2.2 0 = 2 from n0) (show (sR σ 254 (0 + 1)).2.2.2.2 254 ≤ 1 from Nat.le_refl 1) (show (sR σ 254 (0 + 1)).2.2.2.2 255 ≤ 1 by show σ.2.2.2.2 255 ≤ 1; omega) (show (sR σ 254 (0 + 1)).2.2.2.2 353 ≤ 1 by show σ.2.2.2.2 353 ≤ 1; omega) (show σ.2.2.2.2 101 < 2 by omega) (show σ.2.2.2.2 102 < 2 by omega) hP hD
    refine W.eq (g2 := F0 m 25 ls [.ref (a' 52), .ref (a' 2)]) (by rw [h52, hk 2 (by decide)]) ?_
    have hl : lv_has ls 2 [(1, .null), (0, .ref (a' 2))] := by rw [hk 2 (by decide)]; exact hl
    refine lv_goto (tgt := 29) hx hb dX5_enact_25 (by decide) ?_
    refine S_X5_draft (x := 1) C hP hD hS q_128 dX5_enact_29 (fun H locs hP hD hS => ?_)
    refine lv_aload_n hx hb dX5_enact_32 rfl (lv_at hl 1 rfl) ?_
    refine G_X5_totals C hP q_131 dX5_enact_33 ?_
    refine lv_iconst (v := -1) hx hb dX5_enact_36 (by decide) ?_
    refine tV [] C hP hD hS (c_fillI (arr_X5_totals) (aput_X5_totals) (Nat.le_of_ble_eq_true rfl)) ms_fillI q_113 dX5_enact_37 ⟨Nat.le_of_ble_eq_true rfl, Nat.le_of_ble_eq_true rfl⟩ ⟨Nat.le_of_ble_eq_true rfl, Nat.le_of_ble_eq_true rfl⟩ rfl rfl (Nat.le_of_ble_eq_true rfl) hl.1 (fun H locs hP hD hS => ?_)
    have hf : some _ = some σ' := hf
    cases hf
    exact hQ _ _ _ _ a' hk dX5_enact_40 hP hD hS
  · replace hf := ineg c0 hf
    rw [lawv_p c0]
    refine lv_astore_n (lv' := [(1, .ref (a (48 + 4 * (σ.2.2.2.2 254 - 1)))), (0, .ref (a 2))]) hx hb dX5_enact_4 rfl hl (by decide) rfl (fun ls hl => ?_)
    refine lv_aload_n hx hb dX5_enact_5 rfl (lv_at hl 1 rfl) ?_
    refine lv_aload_n hx hb dX5_enact_6 rfl (lv_at hl 1 rfl) ?_
    refine G_X5_draft C hP q_128 dX5_enact_7 ?_
    rw [lawv_s ej]
    refine S_X5_law C hP hD hS q_127 dX5_enact_10 (fun H locs hP hD hS => ?_)
    refine lv_aload_n hx hb dX5_enact_13 rfl (lv_at hl 1 rfl) ?_
    refine lv_aload_n hx hb dX5_enact_14 rfl (lv_at hl 0 rfl) ?_
    refine lv_ifnonnull (tgt := 28) hx hb dX5_enact_15 (by decide) ?_
    refine lv_aload_n hx hb dX5_enact_28 rfl (lv_at hl 0 rfl) ?_
    refine S_X5_draft C hP hD hS q_128 dX5_enact_29 (fun H locs hP hD hS => ?_)
    refine lv_aload_n hx hb dX5_enact_32 rfl (lv_at hl 1 rfl) ?_
    refine G_X5_totals C hP q_131 dX5_enact_33 ?_
    refine lv_iconst (v := -1) hx hb dX5_enact_36 (by decide) ?_
    refine tV [] C hP hD hS (c_fillI (arr_X5_totals) (aput_X5_totals) (Nat.le_of_ble_eq_true rfl)) ms_fillI q_113 dX5_enact_37 ⟨Nat.le_of_ble_eq_true rfl, Nat.le_of_ble_eq_true rfl⟩ ⟨Nat.le_of_ble_eq_true rfl, Nat.le_of_ble_eq_true rfl⟩ rfl rfl (Nat.le_of_ble_eq_true rfl) hl.1 (fun H locs hP hD hS => ?_)
    have hf : some _ = some σ' := hf
    cases hf
    refine W.widen (k := 4) (n := 267) (Nat.le_of_ble_eq_true rfl) (Nat.le_of_ble_eq_true rfl) ?_
    exact hQ _ _ _ _ a (fun _ _ => rfl) dX5_enact_40 hP hD hS
def f_X11_law (σ : St) : Option (Int32 × St) := derefL σ (σ.2.2.2.2 255) (fun j => bnd2 (f_X7_read σ j) (fun r1 σ1 => bnd (sI σ1 351 0 0) (fun σ2 => if r1 < 0 then (bnd1 (f_X5_enact σ2) (fun σ3 => some (1, σ3))) else (some ((-100) - r1, σ2)))))
set_option maxHeartbeats 4000000 in
set_option maxRecDepth 100000 in
theorem c_X11_law {l : Launch} {g : va_G} {ts : ClassId × ClassId × ClassId} {a : Nat → Nat} {σ σ' : St} {r : Int32} (hf : f_X11_law σ = some (r, σ')) : ConAI l g ts yX11_law cX11_law 2 ({ frames := 283, cells := 4, slots := 267, locals := 7840 } : Room) a σ [.ref (a 0)] r σ' := by
  refine ⟨rfl, rfl, fun sz => ?_⟩
  refine Met.ofW (cc := cX11_law) (maxL := 2) (ret := some .int) (by decide) rfl ?_
  intro p e s m args below meth c s₁ B hml hv
  obtain ⟨rfl, ⟨rfl, hP, hD0, hE⟩, hO⟩ := hv
  have hl := lv_entry [Value.ref (a 0)] (n := 2) (Nat.le_of_ble_eq_true rfl)
  rw [lg_entry_eq]
  generalize (lg_sl [Value.ref (a 0)] ++ List.replicate (2 - (lg_sl [Value.ref (a 0)]).length) Slot.unset).toArray = ls at hl ⊢
  have hl : lv_has ls 2 [(0, .ref (a 0))] := hl
  have hD := hD0.self (sz := s.heap.size)
  generalize hAe : va_A (WC ts a σ) s.heap.size = A at hD hE ⊢
  have hA : ∀ q : Nat, s.heap.size ≤ q → A q := fun q h => by rw [← hAe]; exact Or.inr h
  have hS : va_S A s.heap s.heap [] := va_S.rf
  have hx := B.exec
  have hb := B.bytes
  have hown : s.vm.findClass RX11 = some m.cls := findClass_of_methodNamed B.named
  have hts : ∀ w ∈ uw, w.before #[Value.ref (a 0)] s = true := fun w hw => atoms_spec B.pre w (List.mem_cons_of_mem _ hw)
  have C : FX p s m #[Value.ref (a 0)] meth c RX11 cX11_law 2 g ts A := ⟨hx, hb, hml, hown, hts, hA, hE⟩
  have hQ : ∀ (H : Heap) (locs : List Loc) (pc : Nat) (ls : Array Slot) (a' : Nat → Nat), keepA a a' → decode cX11_law pc = .ok (.ireturn, 1) → va_P g classes (WC ts a' σ') H → va_D A (WC ts a' σ') → va_S A s.heap H locs → W p l e ({ frames := 283, cells := 4, slots := 267, locals := 7840 } : Room) s m #[Value.ref (a 0)] below meth c H locs 4 267 (MQ below (va_Qi (fun (r' : Int32) (u : St × (Nat → Nat)) => r' = r ∧ u.1 = σ' ∧ keepA a u.2) (PostA g ts a σ s.heap.size) A) #[Value.ref (a 0)] s 4 267 A) (F0 m pc ls [.int r]) := by
    intro H locs pc ls a' hk hd hP' hD' hS'
    exact W.iret B.exec B.bytes B.returns (fun t ht hW => ⟨⟨r, (σ', a'), rfl, ⟨rfl, rfl, hk⟩, by show va_P g classes (WC ts a' σ') t.heap; rw [ht]; exact hP', by show va_D (va_A (WC ts a σ) s.heap.size) (WC ts a' σ'); rw [hAe]; exact hD'⟩, hS'.F ht⟩) hS'.2.2 hd B.notSynchronized
  unfold f_X11_law at hf
  obtain ⟨j, ej, hj, hf⟩ := derefL_some hf
  refine lv_aload_n hx hb dX11_law_0 rfl (lv_at hl 0 rfl) ?_
  refine G_X11_reader C hP q_385 dX11_law_1 ?_
  refine lv_aload_n hx hb dX11_law_4 rfl (lv_at hl 0 rfl) ?_
  refine G_X11_line C hP q_380 dX11_law_5 ?_
  refine GN_X5_draft C hP (by decide +kernel) dX11_law_8 ?_
  rw [lawv_s ej]
  obtain ⟨r1, σ1, hr1, hf⟩ := bnd2_some hf
  refine vI [] C hP hD hS (c_X7_read hj hr1) mv_X7_read q_520 rv_X7 dX11_law_11 ⟨Nat.le_of_ble_eq_true rfl, Nat.le_of_ble_eq_true rfl⟩ ⟨Nat.zero_le _, Nat.zero_le _⟩ rfl rfl (Nat.le_of_ble_eq_true rfl) hl.1 (fun H locs hP hD hS => ?_)
  refine lv_istore_n (lv' := [(1, .int r1), (0, .ref (a 0))]) hx hb dX11_law_14 rfl hl (by decide) rfl (fun ls hl => ?_)
  refine lv_aload_n hx hb dX11_law_15 rfl (lv_at hl 1 rfl) ?_
  refine G_X11_reader C hP q_385 dX11_law_16 ?_
  refine lv_iconst (v := 0) hx hb dX11_law_19 (by decide) ?_
  refine S_X7_length C hP hD hS q_247 dX11_law_20 (fun H locs hP hD hS => ?_)
  refine nameS (wf := WC ts a) hP hD hf (fun σ2 hP hD hf => ?_)
  refine lv_iload_n hx hb dX11_law_23 rfl (lv_at hl 0 rfl) ?_
  refine lv_if_lt (tgt := 32) hx hb dX11_law_24 (by decide) (fun c1 => ?_) (fun c1 => ?_)
  · replace hf := ipos c1 hf
    obtain ⟨σ3, hr3, hf⟩ := bnd1_some hf
    refine lv_aload_n hx hb dX11_law_32 rfl (lv_at hl 1 rfl) ?_
    refine G_X11_line C hP q_380 dX11_law_33 ?_
    refine aV [] C hO hP hD hS (c_X5_enact hr3) mv_X5_enact q_649 rv_X5 dX11_law_36 ⟨Nat.le_of_ble_eq_true rfl, Nat.le_of_ble_eq_true rfl⟩ ⟨Nat.le_of_ble_eq_true rfl, Nat.le_of_ble_eq_true rfl⟩ rfl rfl (Nat.le_of_ble_eq_true rfl) hl.1 (fun a' H locs hk hP hD hS => ?_)
    refine lv_iconst (v := 1) hx hb dX11_law_39 (by decide) ?_
    obtain ⟨e1, e2⟩ := Prod.mk.inj (Option.some.inj hf)
    subst e1 e2
    exact hQ _ _ _ _ a' hk dX11_law_40 hP hD hS
  · replace hf := ineg c1 hf
    refine lv_bipush (v := -100) hx hb dX11_law_27 (by decide) ?_
    refine lv_iload_n hx hb dX11_law_29 rfl (lv_at hl 0 rfl) ?_
    refine lv_isub hx hb dX11_law_30 ?_
    obtain ⟨e1, e2⟩ := Prod.mk.inj (Option.some.inj hf)
    subst e1 e2
    refine W.widen (k := 4) (n := 267) (Nat.le_of_ble_eq_true rfl) (Nat.le_of_ble_eq_true rfl) ?_
    exact hQ _ _ _ _ a (fun _ _ => rfl) dX11_law_31 hP hD hS
