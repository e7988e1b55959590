abbrev rk (f k : Nat) : Room := { frames := f, cells := 0, slots := 0, locals := k }
def chkB (o : Option (Int32 × St)) : Option (Int32 × St) := match o with
  | none => none
  | some v => if v.1 = 0 ∨ v.1 = 1 then some v else none
def chkB1 (o : Option Int32) : Option Int32 := match o with
  | none => none
  | some v => if v = 0 ∨ v = 1 then some v else none
theorem chkB_some {o : Option (Int32 × St)} {r : Int32} {u : St} (h : chkB o = some (r, u)) : o = some (r, u) ∧ narrow .boolean (.int r) = .int r := by
  cases o with
  | none => cases h
  | some v =>
    obtain ⟨v1, v2⟩ := v
    simp only [chkB] at h
    by_cases hz : v1 = 0 ∨ v1 = 1
    · rw [if_pos hz] at h
      cases h
      refine ⟨rfl, ?_⟩
      rcases hz with hz | hz <;> rw [hz] <;> rfl
    · rw [if_neg hz] at h; cases h
theorem chkB1_some {o : Option Int32} {r : Int32} (h : chkB1 o = some r) : o = some r ∧ narrow .boolean (.int r) = .int r := by
  cases o with
  | none => cases h
  | some v =>
    simp only [chkB1] at h
    by_cases hz : v = 0 ∨ v = 1
    · rw [if_pos hz] at h
      cases h
      refine ⟨rfl, ?_⟩
      rcases hz with hz | hz <;> rw [hz] <;> rfl
    · rw [if_neg hz] at h; cases h
def derefL {β : Type} (σ : St) (r : Nat) (k : Nat → Option β) : Option β := match r with
  | 0 => none
  | j + 1 => if j = 0 ∨ (j = 1 ∧ σ.2.2.2.2 0 = 2) then k j else none
theorem derefL_some {β : Type} {σ : St} {r : Nat} {k : Nat → Option β} {x : β} (h : derefL σ r k = some x) : ∃ j, r = j + 1 ∧ lawOk σ j ∧ k j = some x := by
  cases r with
  | zero => cases h
  | succ j =>
    simp only [derefL] at h
    by_cases hz : j = 0 ∨ (j = 1 ∧ σ.2.2.2.2 0 = 2)
    · rw [if_pos hz] at h; exact ⟨j, rfl, hz, h⟩
    · rw [if_neg hz] at h; cases h
theorem lawv_s {a : Nat → Nat} {r j : Nat} (h : r = j + 1) : lawv a r = .ref (a (48 + 4 * j)) := by subst h; rfl
theorem lawv_0 {a : Nat → Nat} {r : Nat} (h : r = 0) : lawv a r = .null := by subst h; rfl
theorem lawv_p {a : Nat → Nat} {r : Nat} (h : ¬ r = 0) : lawv a r = .ref (a (48 + 4 * (r - 1))) := by
  cases r with
  | zero => exact absurd rfl h
  | succ j => rfl
section ROWS
variable {p : Program} {l : Launch} {e : Env} {R : Room} {s : State} {m : MethodId} {args : Array Value} {below : List Frame} {meth : Method} {c : Code} {H : Heap} {locs : List Loc} {cells slots : Nat} {Q : State → Prop}
variable {own : String} {cc : ByteArray} {nL : Nat} {g : va_G} {ts : ClassId × ClassId × ClassId} {A : Nat → Prop} {wf : St → va_W} {σ σ' : St} {y : MethodName} {bytes : ByteArray} {maxL n index pc : Nat} {ret : Option FieldType} {rm : Room} {b : Nat} {rest st0 As : List Value} {ls : Array Slot}
theorem nameS {β : Type} {u : St} {k : St → β} {r : β} {G : Prop} (hP : va_P g classes (wf u) H) (hD : va_D A (wf u)) (hf : bnd u k = r) (kk : ∀ z : St, va_P g classes (wf z) H → va_D A (wf z) → k z = r → G) : G := kk u hP hD hf
theorem nameL {β : Type} {u : St} {k : St → β} {r : β} {G : Prop} {j : Nat} (hP : va_P g classes (wf u) H) (hD : va_D A (wf u)) (hf : bnd u k = r) (hi : lawOk u j) (kk : ∀ z : St, va_P g classes (wf z) H → va_D A (wf z) → k z = r → lawOk z j → G) : G := kk u hP hD hf hi
theorem retI {r v : Int32} {u : St} (hQ : RetI p l e R s m args below meth c cc g wf A r σ' Q) (hf : some (v, u) = some (r, σ')) (hd : decode cc pc = .ok (.ireturn, 1)) (hP : va_P g classes (wf u) H) (hD : va_D A (wf u)) (hS : va_S A s.heap H locs) : W p l e R s m args below meth c H locs 0 0 Q (F0 m pc ls [.int v]) := by
  cases hf
  exact hQ H locs pc ls hd hP hD hS
theorem retIp {r v : Int32} (hQ : RetI p l e R s m args below meth c cc g wf A r σ Q) (hf : some v = some r) (hd : decode cc pc = .ok (.ireturn, 1)) (hP : va_P g classes (wf σ) H) (hD : va_D A (wf σ)) (hS : va_S A s.heap H locs) : W p l e R s m args below meth c H locs 0 0 Q (F0 m pc ls [.int v]) := by
  cases hf
  exact hQ H locs pc ls hd hP hD hS
theorem retL {r v : Int64} {u : St} (hQ : RetL p l e R s m args below meth c cc g wf A r σ' Q) (hf : some (v, u) = some (r, σ')) (hd : decode cc pc = .ok (.lreturn, 1)) (hP : va_P g classes (wf u) H) (hD : va_D A (wf u)) (hS : va_S A s.heap H locs) : W p l e R s m args below meth c H locs 0 0 Q (F0 m pc ls [.long v]) := by
  cases hf
  exact hQ H locs pc ls hd hP hD hS
theorem retLp {r v : Int64} (hQ : RetL p l e R s m args below meth c cc g wf A r σ Q) (hf : some v = some r) (hd : decode cc pc = .ok (.lreturn, 1)) (hP : va_P g classes (wf σ) H) (hD : va_D A (wf σ)) (hS : va_S A s.heap H locs) : W p l e R s m args below meth c H locs 0 0 Q (F0 m pc ls [.long v]) := by
  cases hf
  exact hQ H locs pc ls hd hP hD hS
theorem retV {u : St} (hQ : RetV p l e R s m args below meth c cc g wf A σ' Q) (hf : some u = some σ') (hd : decode cc pc = .ok (.return_, 1)) (hP : va_P g classes (wf u) H) (hD : va_D A (wf u)) (hS : va_S A s.heap H locs) : W p l e R s m args below meth c H locs 0 0 Q (F0 m pc ls []) := by
  cases hf
  exact hQ H locs pc ls hd hP hD hS
/-! calls -/
theorem vI {r : Int32} (rest : List Value) (C : FX p s m args meth c own cc nL g ts A) (hP : va_P g classes (wf σ) H) (hD : va_D A (wf σ)) (hS : va_S A s.heap H locs) (hM : ConI l g ts wf y bytes maxL ret rm σ (.ref b :: As) r σ') (hY : MV y bytes maxL ret n) (hl : Cond.methodLink own index y ∈ uw) (hrec : RV wf σ b y.cls) (hdg : decode cc pc = .ok (.invokevirtual index, 3)) (hR : rm.frames + 1 ≤ R.frames ∧ 8 + (maxL + 11) + rm.locals ≤ R.locals) (hcs : cells ≤ R.cells ∧ slots ≤ R.slots) (hn : As.length = n) (hstk : st0 = As.reverse ++ .ref b :: rest) (hcat : (rest.map fun v => v.category).sum ≤ 8) (hsz : ls.size = nL)
    (kk : ∀ (H1 : Heap) (locs1 : List Loc), va_P g classes (wf σ') H1 → va_D A (wf σ') → va_S A s.heap H1 locs1 → W p l e R s m args below meth c H1 locs1 cells slots Q (F0 m (pc + 3) ls (.int r :: rest))) : W p l e R s m args below meth c H locs cells slots Q (F0 m pc ls st0) :=
  cl_i (cl_V C hP hD hS As hM.1 hM.2.1 (hM.2.2 _) hY hl hrec hR hcs hn hstk hcat hsz hdg) hD hS C kk
theorem vL {r : Int64} (rest : List Value) (C : FX p s m args meth c own cc nL g ts A) (hP : va_P g classes (wf σ) H) (hD : va_D A (wf σ)) (hS : va_S A s.heap H locs) (hM : ConL l g ts wf y bytes maxL ret rm σ (.ref b :: As) r σ') (hY : MV y bytes maxL ret n) (hl : Cond.methodLink own index y ∈ uw) (hrec : RV wf σ b y.cls) (hdg : decode cc pc = .ok (.invokevirtual index, 3)) (hR : rm.frames + 1 ≤ R.frames ∧ 8 + (maxL + 11) + rm.locals ≤ R.locals) (hcs : cells ≤ R.cells ∧ slots ≤ R.slots) (hn : As.length = n) (hstk : st0 = As.reverse ++ .ref b :: rest) (hcat : (rest.map fun v => v.category).sum ≤ 8) (hsz : ls.size = nL)
    (kk : ∀ (H1 : Heap) (locs1 : List Loc), va_P g classes (wf σ') H1 → va_D A (wf σ') → va_S A s.heap H1 locs1 → W p l e R s m args below meth c H1 locs1 cells slots Q (F0 m (pc + 3) ls (.long r :: rest))) : W p l e R s m args below meth c H locs cells slots Q (F0 m pc ls st0) :=
  cl_l (cl_V C hP hD hS As hM.1 hM.2.1 (hM.2.2 _) hY hl hrec hR hcs hn hstk hcat hsz hdg) hD hS C kk
theorem vV (rest : List Value) (C : FX p s m args meth c own cc nL g ts A) (hP : va_P g classes (wf σ) H) (hD : va_D A (wf σ)) (hS : va_S A s.heap H locs) (hM : ConV l g ts wf y bytes maxL ret rm σ (.ref b :: As) σ') (hY : MV y bytes maxL ret n) (hl : Cond.methodLink own index y ∈ uw) (hrec : RV wf σ b y.cls) (hdg : decode cc pc = .ok (.invokevirtual index, 3)) (hR : rm.frames + 1 ≤ R.frames ∧ 8 + (maxL + 11) + rm.locals ≤ R.locals) (hcs : cells ≤ R.cells ∧ slots ≤ R.slots) (hn : As.length = n) (hstk : st0 = As.reverse ++ .ref b :: rest) (hcat : (rest.map fun v => v.category).sum ≤ 8) (hsz : ls.size = nL)
    (kk : ∀ (H1 : Heap) (locs1 : List Loc), va_P g classes (wf σ') H1 → va_D A (wf σ') → va_S A s.heap H1 locs1 → W p l e R s m args below meth c H1 locs1 cells slots Q (F0 m (pc + 3) ls rest)) : W p l e R s m args below meth c H locs cells slots Q (F0 m pc ls st0) :=
  cl_v (cl_V C hP hD hS As hM.1 hM.2.1 (hM.2.2 _) hY hl hrec hR hcs hn hstk hcat hsz hdg) hD hS C kk
theorem tI {r : Int32} (rest : List Value) (C : FX p s m args meth c own cc nL g ts A) (hP : va_P g classes (wf σ) H) (hD : va_D A (wf σ)) (hS : va_S A s.heap H locs) (hM : ConI l g ts wf y bytes maxL ret rm σ As r σ') (hY : MS y bytes maxL ret n) (hl : Cond.methodLink own index y ∈ uw) (hdg : decode cc pc = .ok (.invokestatic index, 3)) (hR : rm.frames + 1 ≤ R.frames ∧ 8 + (maxL + 11) + rm.locals ≤ R.locals) (hcs : cells ≤ R.cells ∧ slots ≤ R.slots) (hn : As.length = n) (hstk : st0 = As.reverse ++ rest) (hcat : (rest.map fun v => v.category).sum ≤ 8) (hsz : ls.size = nL)
    (kk : ∀ (H1 : Heap) (locs1 : List Loc), va_P g classes (wf σ') H1 → va_D A (wf σ') → va_S A s.heap H1 locs1 → W p l e R s m args below meth c H1 locs1 cells slots Q (F0 m (pc + 3) ls (.int r :: rest))) : W p l e R s m args below meth c H locs cells slots Q (F0 m pc ls st0) :=
  cl_i (cl_S C hP hD hS As hM.1 hM.2.1 (hM.2.2 _) hY hl hR hcs hn hstk hcat hsz hdg) hD hS C kk
theorem tL {r : Int64} (rest : List Value) (C : FX p s m args meth c own cc nL g ts A) (hP : va_P g classes (wf σ) H) (hD : va_D A (wf σ)) (hS : va_S A s.heap H locs) (hM : ConL l g ts wf y bytes maxL ret rm σ As r σ') (hY : MS y bytes maxL ret n) (hl : Cond.methodLink own index y ∈ uw) (hdg : decode cc pc = .ok (.invokestatic index, 3)) (hR : rm.frames + 1 ≤ R.frames ∧ 8 + (maxL + 11) + rm.locals ≤ R.locals) (hcs : cells ≤ R.cells ∧ slots ≤ R.slots) (hn : As.length = n) (hstk : st0 = As.reverse ++ rest) (hcat : (rest.map fun v => v.category).sum ≤ 8) (hsz : ls.size = nL)
    (kk : ∀ (H1 : Heap) (locs1 : List Loc), va_P g classes (wf σ') H1 → va_D A (wf σ') → va_S A s.heap H1 locs1 → W p l e R s m args below meth c H1 locs1 cells slots Q (F0 m (pc + 3) ls (.long r :: rest))) : W p l e R s m args below meth c H locs cells slots Q (F0 m pc ls st0) :=
  cl_l (cl_S C hP hD hS As hM.1 hM.2.1 (hM.2.2 _) hY hl hR hcs hn hstk hcat hsz hdg) hD hS C kk
theorem tV (rest : List Value) (C : FX p s m args meth c own cc nL g ts A) (hP : va_P g classes (wf σ) H) (hD : va_D A (wf σ)) (hS : va_S A s.heap H locs) (hM : ConV l g ts wf y bytes maxL ret rm σ As σ') (hY : MS y bytes maxL ret n) (hl : Cond.methodLink own index y ∈ uw) (hdg : decode cc pc = .ok (.invokestatic index, 3)) (hR : rm.frames + 1 ≤ R.frames ∧ 8 + (maxL + 11) + rm.locals ≤ R.locals) (hcs : cells ≤ R.cells ∧ slots ≤ R.slots) (hn : As.length = n) (hstk : st0 = As.reverse ++ rest) (hcat : (rest.map fun v => v.category).sum ≤ 8) (hsz : ls.size = nL)
    (kk : ∀ (H1 : Heap) (locs1 : List Loc), va_P g classes (wf σ') H1 → va_D A (wf σ') → va_S A s.heap H1 locs1 → W p l e R s m args below meth c H1 locs1 cells slots Q (F0 m (pc + 3) ls rest)) : W p l e R s m args below meth c H locs cells slots Q (F0 m pc ls st0) :=
  cl_v (cl_S C hP hD hS As hM.1 hM.2.1 (hM.2.2 _) hY hl hR hcs hn hstk hcat hsz hdg) hD hS C kk
theorem tnI {r : Int32} {host : String} (rest : List Value) (C : FX p s m args meth c own cc nL g ts A) (hP : va_P g classes (wf σ) H) (hD : va_D A (wf σ)) (hS : va_S A s.heap H locs) (hM : ConI l g ts wf y bytes maxL ret rm σ As r σ') (hY : MS y bytes maxL ret n) (hl : Cond.methodLinkNest own index y host ∈ nestW) (hdg : decode cc pc = .ok (.invokestatic index, 3)) (hR : rm.frames + 1 ≤ R.frames ∧ 8 + (maxL + 11) + rm.locals ≤ R.locals) (hcs : cells ≤ R.cells ∧ slots ≤ R.slots) (hn : As.length = n) (hstk : st0 = As.reverse ++ rest) (hcat : (rest.map fun v => v.category).sum ≤ 8) (hsz : ls.size = nL)
    (kk : ∀ (H1 : Heap) (locs1 : List Loc), va_P g classes (wf σ') H1 → va_D A (wf σ') → va_S A s.heap H1 locs1 → W p l e R s m args below meth c H1 locs1 cells slots Q (F0 m (pc + 3) ls (.int r :: rest))) : W p l e R s m args below meth c H locs cells slots Q (F0 m pc ls st0) :=
  cl_i (cl_SN C hP hD hS As hM.1 hM.2.1 (hM.2.2 _) hY hl hR hcs hn hstk hcat hsz hdg) hD hS C kk
/-! longs compared, and the branch behind it -/
theorem lc_lt {x y : Int64} : lg_cmp x y < 0 ↔ x < y := by
  unfold lg_cmp
  by_cases h1 : x > y
  · rw [if_pos h1]
    exact ⟨fun h => absurd h (by decide), fun h => absurd (Int64.lt_trans h h1) (Int64.lt_irrefl)⟩
  · rw [if_neg h1]
    by_cases h2 : x = y
    · rw [if_pos h2]
      subst h2
      exact ⟨fun h => absurd h (by decide), fun h => absurd h Int64.lt_irrefl⟩
    · rw [if_neg h2]
      refine ⟨fun _ => ?_, fun _ => by decide⟩
      exact Int64.lt_of_le_of_ne (Int64.not_lt.mp h1) h2
theorem lc_gt {x y : Int64} : 0 < lg_cmp x y ↔ y < x := by
  unfold lg_cmp
  by_cases h1 : x > y
  · rw [if_pos h1]; exact ⟨fun _ => h1, fun _ => by decide⟩
  · rw [if_neg h1]
    by_cases h2 : x = y
    · rw [if_pos h2]; exact ⟨fun h => absurd h (by decide), fun h => absurd h h1⟩
    · rw [if_neg h2]; exact ⟨fun h => absurd h (by decide), fun h => absurd h h1⟩
theorem lc_eq {x y : Int64} : lg_cmp x y = 0 ↔ x = y := by
  unfold lg_cmp
  by_cases h1 : x > y
  · rw [if_pos h1]
    exact ⟨fun h => absurd h (by decide), fun h => by subst h; exact absurd h1 Int64.lt_irrefl⟩
  · rw [if_neg h1]
    by_cases h2 : x = y
    · rw [if_pos h2]; exact ⟨fun _ => h2, fun _ => rfl⟩
    · rw [if_neg h2]; exact ⟨fun h => absurd h (by decide), fun h => absurd h h2⟩
theorem lc_ge {x y : Int64} : 0 ≤ lg_cmp x y ↔ y ≤ x := by
  rw [← Int32.not_lt, ← Int64.not_lt, lc_lt]
theorem lc_le {x y : Int64} : lg_cmp x y ≤ 0 ↔ x ≤ y := by
  rw [← Int32.not_lt, ← Int64.not_lt, lc_gt]
theorem lb_lt {x y : Int64} {off : Int} {tgt : Nat} (hx : p.tables.exec = Jvm.exec) (hb : c.code = cc) (hd : decode cc pc = .ok (.lcmp, 1)) (hd2 : decode cc (pc + 1) = .ok (.ifCond .lt off, 3)) (ht : ((pc + 1 : Nat) : Int) + off = (tgt : Int)) (kt : x < y → W p l e R s m args below meth c H locs cells slots Q (F0 m tgt ls rest)) (kf : ¬ x < y → W p l e R s m args below meth c H locs cells slots Q (F0 m (pc + 1 + 3) ls rest)) : W p l e R s m args below meth c H locs cells slots Q (F0 m pc ls (.long y :: .long x :: rest)) :=
  W.lcmp hx hb hd (lv_if_lt hx hb hd2 ht (fun h => kt (lc_lt.mp h)) (fun h => kf (fun z => h (lc_lt.mpr z))))
theorem lb_gt {x y : Int64} {off : Int} {tgt : Nat} (hx : p.tables.exec = Jvm.exec) (hb : c.code = cc) (hd : decode cc pc = .ok (.lcmp, 1)) (hd2 : decode cc (pc + 1) = .ok (.ifCond .gt off, 3)) (ht : ((pc + 1 : Nat) : Int) + off = (tgt : Int)) (kt : y < x → W p l e R s m args below meth c H locs cells slots Q (F0 m tgt ls rest)) (kf : ¬ y < x → W p l e R s m args below meth c H locs cells slots Q (F0 m (pc + 1 + 3) ls rest)) : W p l e R s m args below meth c H locs cells slots Q (F0 m pc ls (.long y :: .long x :: rest)) :=
  W.lcmp hx hb hd (lv_if_gt hx hb hd2 ht (fun h => kt (lc_gt.mp h)) (fun h => kf (fun z => h (lc_gt.mpr z))))
theorem lb_ge {x y : Int64} {off : Int} {tgt : Nat} (hx : p.tables.exec = Jvm.exec) (hb : c.code = cc) (hd : decode cc pc = .ok (.lcmp, 1)) (hd2 : decode cc (pc + 1) = .ok (.ifCond .ge off, 3)) (ht : ((pc + 1 : Nat) : Int) + off = (tgt : Int)) (kt : y ≤ x → W p l e R s m args below meth c H locs cells slots Q (F0 m tgt ls rest)) (kf : ¬ y ≤ x → W p l e R s m args below meth c H locs cells slots Q (F0 m (pc + 1 + 3) ls rest)) : W p l e R s m args below meth c H locs cells slots Q (F0 m pc ls (.long y :: .long x :: rest)) :=
  W.lcmp hx hb hd (lv_if_ge hx hb hd2 ht (fun h => kt (lc_ge.mp h)) (fun h => kf (fun z => h (lc_ge.mpr z))))
theorem lb_le {x y : Int64} {off : Int} {tgt : Nat} (hx : p.tables.exec = Jvm.exec) (hb : c.code = cc) (hd : decode cc pc = .ok (.lcmp, 1)) (hd2 : decode cc (pc + 1) = .ok (.ifCond .le off, 3)) (ht : ((pc + 1 : Nat) : Int) + off = (tgt : Int)) (kt : x ≤ y → W p l e R s m args below meth c H locs cells slots Q (F0 m tgt ls rest)) (kf : ¬ x ≤ y → W p l e R s m args below meth c H locs cells slots Q (F0 m (pc + 1 + 3) ls rest)) : W p l e R s m args below meth c H locs cells slots Q (F0 m pc ls (.long y :: .long x :: rest)) :=
  W.lcmp hx hb hd (lv_if_le hx hb hd2 ht (fun h => kt (lc_le.mp h)) (fun h => kf (fun z => h (lc_le.mpr z))))
theorem lb_eq {x y : Int64} {off : Int} {tgt : Nat} (hx : p.tables.exec = Jvm.exec) (hb : c.code = cc) (hd : decode cc pc = .ok (.lcmp, 1)) (hd2 : decode cc (pc + 1) = .ok (.ifCond .eq off, 3)) (ht : ((pc + 1 : Nat) : Int) + off = (tgt : Int)) (kt : x = y → W p l e R s m args below meth c H locs cells slots Q (F0 m tgt ls rest)) (kf : ¬ x = y → W p l e R s m args below meth c H locs cells slots Q (F0 m (pc + 1 + 3) ls rest)) : W p l e R s m args below meth c H locs cells slots Q (F0 m pc ls (.long y :: .long x :: rest)) :=
  W.lcmp hx hb hd (lv_if_eq hx hb hd2 ht (fun h => kt (lc_eq.mp h)) (fun h => kf (fun z => h (lc_eq.mpr z))))
theorem lb_ne {x y : Int64} {off : Int} {tgt : Nat} (hx : p.tables.exec = Jvm.exec) (hb : c.code = cc) (hd : decode cc pc = .ok (.lcmp, 1)) (hd2 : decode cc (pc + 1) = .ok (.ifCond .ne off, 3)) (ht : ((pc + 1 : Nat) : Int) + off = (tgt : Int)) (kt : ¬ x = y → W p l e R s m args below meth c H locs cells slots Q (F0 m tgt ls rest)) (kf : x = y → W p l e R s m args below meth c H locs cells slots Q (F0 m (pc + 1 + 3) ls rest)) : W p l e R s m args below meth c H locs cells slots Q (F0 m pc ls (.long y :: .long x :: rest)) :=
  W.lcmp hx hb hd (lv_if_ne hx hb hd2 ht (fun h => kt (fun z => h (lc_eq.mpr z))) (fun h => kf (lc_eq.mp h)))
/-! receivers -/
variable {a : Nat → Nat} {u : St} {i : Nat}
theorem rv_X11 : RV (WC ts a) u (a 0) RX11 := ⟨0, 11, _, _, _, rfl, cell_X11⟩
theorem rv_X5 : RV (WC ts a) u (a 2) RX5 := ⟨2, 5, _, _, _, rfl, cell_X5⟩
theorem rv_X6 : RV (WC ts a) u (a 8) RX6 := ⟨8, 6, _, _, _, rfl, cell_X6⟩
theorem rv_X9 : RV (WC ts a) u (a 12) RX9 := ⟨12, 9, _, _, _, rfl, cell_X9⟩
theorem rv_X3 : RV (WC ts a) u (a 15) RX3 := ⟨15, 3, _, _, _, rfl, cell_X3⟩
theorem rv_X2 : RV (WC ts a) u (a 17) RX2 := ⟨17, 2, _, _, _, rfl, cell_X2⟩
theorem rv_X7 : RV (WC ts a) u (a 20) RX7 := ⟨20, 7, _, _, _, rfl, cell_X7⟩
theorem rv_X0 : RV (WC ts a) u (a 22) RX0 := ⟨22, 0, _, _, _, rfl, cell_X0⟩
theorem rv_X10 : RV (WC ts a) u (a 27) RX10 := ⟨27, 10, _, _, _, rfl, cell_X10⟩
theorem rv_X1 (hi : i < 2) : RV (WC ts a) u (a (30 + 3 * i)) RX1 := ⟨_, 1, _, _, _, rfl, cell_X1 hi⟩
theorem rv_X8 (hi : i < 6) : RV (WC ts a) u (a (36 + 2 * i)) RX8 := ⟨_, 8, _, _, _, rfl, cell_X8 hi⟩
theorem rv_X4 (hi : lawOk u i) : RV (WC ts a) u (a (48 + 4 * i)) RX4 := ⟨_, 4, _, _, _, rfl, cell_X4 hi⟩
theorem rv_X12 : RV (WM ts a) u (a 0) RX12 := ⟨0, 12, _, _, _, rfl, cell_X12⟩
end ROWS
