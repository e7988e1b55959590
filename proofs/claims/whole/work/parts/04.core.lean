abbrev St : Type := (Nat → Nat → Int32) × (Nat → Nat → Int64) × (Nat → Nat → Nat → Int32) × (Nat → Nat → Nat → Int64) × (Nat → Nat)
def sI (σ : St) (f o : Nat) (v : Int32) : St := (fun f' o' => if f' = f ∧ o' = o then v else σ.1 f' o', σ.2.1, σ.2.2.1, σ.2.2.2.1, σ.2.2.2.2)
def sJ (σ : St) (f o : Nat) (v : Int64) : St := (σ.1, fun f' o' => if f' = f ∧ o' = o then v else σ.2.1 f' o', σ.2.2.1, σ.2.2.2.1, σ.2.2.2.2)
def sA (σ : St) (f o : Nat) (v : Nat → Int32) : St := (σ.1, σ.2.1, fun f' o' => if f' = f ∧ o' = o then v else σ.2.2.1 f' o', σ.2.2.2.1, σ.2.2.2.2)
def sL (σ : St) (f o : Nat) (v : Nat → Int64) : St := (σ.1, σ.2.1, σ.2.2.1, fun f' o' => if f' = f ∧ o' = o then v else σ.2.2.2.1 f' o', σ.2.2.2.2)
def sR (σ : St) (f : Nat) (v : Nat) : St := (σ.1, σ.2.1, σ.2.2.1, σ.2.2.2.1, fun f' => if f' = f then v else σ.2.2.2.2 f')
/-! functions that may fail -/
def bnd {α β : Type} (e : α) (k : α → β) : β := k e
def bnd1 {α β : Type} (o : Option α) (k : α → Option β) : Option β := match o with
  | none => none
  | some v => k v
def bnd2 {α β : Type} (o : Option (α × St)) (k : α → St → Option β) : Option β := match o with
  | none => none
  | some v => k v.1 v.2
def chk {β : Type} (c : Prop) [Decidable c] (x : Option β) : Option β := if c then none else x
theorem bnd_at {α β : Type} {e y : α} {k : α → β} {r : β} (h : y = e) (hf : bnd e k = r) : k y = r := by subst h; exact hf
theorem bnd1_some {α β : Type} {o : Option α} {k : α → Option β} {r : β} (hf : bnd1 o k = some r) : ∃ v, o = some v ∧ k v = some r := by
  cases o with
  | none => cases hf
  | some v => exact ⟨v, rfl, hf⟩
theorem bnd2_some {α β : Type} {o : Option (α × St)} {k : α → St → Option β} {r : β} (hf : bnd2 o k = some r) : ∃ v u, o = some (v, u) ∧ k v u = some r := by
  cases o with
  | none => cases hf
  | some v => exact ⟨v.1, v.2, rfl, hf⟩
theorem chk_some {β : Type} {c : Prop} [Decidable c] {x : Option β} {r : β} (hf : chk c x = some r) : ¬ c ∧ x = some r := by
  unfold chk at hf
  by_cases h : c
  · rw [if_pos h] at hf; cases hf
  · rw [if_neg h] at hf; exact ⟨h, hf⟩
theorem ipos {α : Type} {c : Prop} [Decidable c] {x y r : α} (h : c) (hf : (if c then x else y) = r) : x = r := by rw [if_pos h] at hf; exact hf
theorem ineg {α : Type} {c : Prop} [Decidable c] {x y r : α} (h : ¬ c) (hf : (if c then x else y) = r) : y = r := by rw [if_neg h] at hf; exact hf
/-! the tables' other words, and the statics -/
abbrev tys (ts : ClassId × ClassId × ClassId) : List (ClassId × FieldType) := [(ts.1, .int), (ts.2.1, .long), (ts.2.2, .object "AsInBertha$Shelf")]
def nestW : List Cond := [.methodLinkNest RX5 27 yX4_init RX11, .methodLinkNest RX11 18 yX6_init RX11, .methodLinkNest RX11 50 yX7_init RX11, .methodLinkNest RX11 57 yX0_init RX11, .methodLinkNest RX11 64 yX1_init RX11, .methodLinkNest RX11 74 yX10_init RX11, .methodLinkNest RX11 85 yX8_init RX11, .methodLinkNest RX8 39 yX11_isLetter RX11, .methodLinkNest RX5 55 yX11_isLetter RX11, .methodLinkNest RX9 76 yX11_nextDraw RX11, .methodLinkNest RX1 31 yX11_nextDraw RX11, .fieldLinkNest RX11 139 "AsInBertha$Line" "draft" "LAsInBertha$Law;" RX11, .fieldLinkNest RX9 47 "AsInBertha" "HUNDREDS" "[J" RX11]
def hundA (j : Nat) : Int64 := ([1, 100, 10000, 1000000, 100000000, 10000000000, 1000000000000] : List Int64).getD j 0
def aboveA (j : Nat) : Int32 := ([0, 0, 0, 2, 1, 3, 0, 4] : List Int32).getD j 0
def ownA (j : Nat) : Int32 := ([1, 10, 11, 2, 20, 0, 0, 0, 0, 30, 0, 0, 0, 41, 40, 0, 0, 0, 50, 0, 0, 0, 0, 60, 70, 0, 0, 0, 0, 80, 0, 81] : List Int32).getD j 0
def EnvX (g : va_G) (ts : ClassId × ClassId × ClassId) (A : Nat → Prop) (U : State) (H : Heap) : Prop :=
  va_K g classes (tys ts) U ∧ (∀ w ∈ nestW, va_Nw w U) ∧
  (∃ t, va_Z RX11 "HUNDREDS" "[J" (.ref t) A U H ∧ va_T .long t 7 (fun j => .long (hundA j)) A U H) ∧
  (∃ t, va_Z RX10 "ABOVE" "[I" (.ref t) A U H ∧ va_T .int t 8 (fun j => .int (aboveA j)) A U H) ∧
  (∃ t, va_Z RX10 "OWN" "[I" (.ref t) A U H ∧ va_T .int t 32 (fun j => .int (ownA j)) A U H) ∧
  va_Z "java/lang/String" "COMPACT_STRINGS" "Z" (.int 1) A U H ∧
  ∃ adK adV : Nat → Nat, vk_S 1 [6] [[97, 110, 101, 115, 104, 107]] adK adV A U H ∧ vk_R RX7 59 "aneshk" (adK 0) U
theorem EnvX.call {g : va_G} {ts : ClassId × ClassId × ClassId} {A A1 : Nat → Prop} {s U : State} {H : Heap} {locs : List Loc} (h : EnvX g ts A s s.heap) (hS : va_S A s.heap H locs) (hU : U.heap = H) (hW : s.WarmedH U.vm) (hAB : ∀ q, A1 q → A q) : EnvX g ts A1 U U.heap := by
  obtain ⟨h1, h2, ⟨t1, a1, b1⟩, ⟨t2, a2, b2⟩, ⟨t3, a3, b3⟩, h4, adK, adV, h5, h6⟩ := h
  rw [hU]
  have hq := hS.2.1
  refine ⟨va_K.moved hW.alike h1, ?_, ⟨t1, (va_Z.moved hW.alike (a1.kept hq)).narrow hAB, (va_T.moved hW.alike (b1.kept hq)).narrow hAB⟩, ⟨t2, (va_Z.moved hW.alike (a2.kept hq)).narrow hAB, (va_T.moved hW.alike (b2.kept hq)).narrow hAB⟩, ⟨t3, (va_Z.moved hW.alike (a3.kept hq)).narrow hAB, (va_T.moved hW.alike (b3.kept hq)).narrow hAB⟩, (va_Z.moved hW.alike (h4.kept hq)).narrow hAB, adK, adV, (vk_S.moved hW.alike (h5.kept hq)).narrow hAB, vk_R.warm hW h6⟩
  intro w hw
  have hz := h2 w hw
  simp only [nestW, List.mem_cons, List.not_mem_nil, or_false] at hw
  rcases hw with rfl | rfl | rfl | rfl | rfl | rfl | rfl | rfl | rfl | rfl | rfl | rfl | rfl <;> first | exact va_Nw.warmM hW hz | exact va_Nw.warmF hW hz
theorem EnvX.calling {g : va_G} {ts : ClassId × ClassId × ClassId} {A : Nat → Prop} {U : State} {f : JFrame} {mk : MethodId} {a : Array Value} (h : EnvX g ts A U U.heap) : EnvX g ts A (U.calling f mk a) (U.calling f mk a).heap := by
  obtain ⟨h1, h2, ⟨t1, a1, b1⟩, ⟨t2, a2, b2⟩, ⟨t3, a3, b3⟩, h4, adK, adV, h5, h6⟩ := h
  have hA : U.vm.Alike (U.calling f mk a).vm := Vm.Alike.refl U.vm
  refine ⟨va_K.moved hA h1, ?_, ⟨t1, va_Z.moved hA a1, va_T.moved hA b1⟩, ⟨t2, va_Z.moved hA a2, va_T.moved hA b2⟩, ⟨t3, va_Z.moved hA a3, va_T.moved hA b3⟩, va_Z.moved hA h4, adK, adV, vk_S.moved hA h5, vk_R.same rfl h6⟩
  intro w hw
  have hz := h2 w hw
  simp only [nestW, List.mem_cons, List.not_mem_nil, or_false] at hw
  rcases hw with rfl | rfl | rfl | rfl | rfl | rfl | rfl | rfl | rfl | rfl | rfl | rfl | rfl <;> exact va_Nw.same rfl rfl hz
/-! contracts over a world wf, whose state is σ -/
def PreW (g : va_G) (ts : ClassId × ClassId × ClassId) (wf : St → va_W) (σ : St) (sz : Nat) : State → Prop := fun U => U.heap.size = sz ∧ va_P g classes (wf σ) U.heap ∧ va_D (fun _ => True) (wf σ) ∧ EnvX g ts (va_A (wf σ) sz) U U.heap
def PostW (g : va_G) (wf : St → va_W) (σ : St) (sz : Nat) : St → State → Prop := fun u t => va_P g classes (wf u) t.heap ∧ va_D (va_A (wf σ) sz) (wf u)
def ConI (l : Launch) (g : va_G) (ts : ClassId × ClassId × ClassId) (wf : St → va_W) (y : MethodName) (cc : ByteArray) (nL : Nat) (ret : Option FieldType) (rm : Room) (σ : St) (av : List Value) (r : Int32) (σ' : St) : Prop := rm.cells = 0 ∧ rm.slots = 0 ∧ ∀ sz, Met l y (.code y cc nL ret :: uw) rm (va_Pc av (PreW g ts wf σ sz)) (va_Qi (fun (r' : Int32) (u : St) => r' = r ∧ u = σ') (PostW g wf σ sz) (va_A (wf σ) sz)) 0 0 (va_A (wf σ) sz)
def ConL (l : Launch) (g : va_G) (ts : ClassId × ClassId × ClassId) (wf : St → va_W) (y : MethodName) (cc : ByteArray) (nL : Nat) (ret : Option FieldType) (rm : Room) (σ : St) (av : List Value) (r : Int64) (σ' : St) : Prop := rm.cells = 0 ∧ rm.slots = 0 ∧ ∀ sz, Met l y (.code y cc nL ret :: uw) rm (va_Pc av (PreW g ts wf σ sz)) (va_Ql (fun (r' : Int64) (u : St) => r' = r ∧ u = σ') (PostW g wf σ sz) (va_A (wf σ) sz)) 0 0 (va_A (wf σ) sz)
def ConV (l : Launch) (g : va_G) (ts : ClassId × ClassId × ClassId) (wf : St → va_W) (y : MethodName) (cc : ByteArray) (nL : Nat) (ret : Option FieldType) (rm : Room) (σ : St) (av : List Value) (σ' : St) : Prop := rm.cells = 0 ∧ rm.slots = 0 ∧ ∀ sz, Met l y (.code y cc nL ret :: uw) rm (va_Pc av (PreW g ts wf σ sz)) (va_Qv (fun (u : St) => u = σ') (PostW g wf σ sz) (va_A (wf σ) sz)) 0 0 (va_A (wf σ) sz)
def FX (p : Program) (s : State) (m : MethodId) (args : Array Value) (meth : Method) (c : Code) (own : String) (cc : ByteArray) (nL : Nat) (g : va_G) (ts : ClassId × ClassId × ClassId) (A : Nat → Prop) : Prop :=
  p.tables.exec = Jvm.exec ∧ c.code = cc ∧ c.maxLocals = nL ∧ s.vm.findClass own = some m.cls ∧ (∀ w ∈ uw, w.before args s = true) ∧ (∀ q, s.heap.size ≤ q → A q) ∧ EnvX g ts A s s.heap
def RetI (p : Program) (l : Launch) (e : Env) (R : Room) (s : State) (m : MethodId) (args : Array Value) (below : List Frame) (meth : Method) (c : Code) (cc : ByteArray) (g : va_G) (wf : St → va_W) (A : Nat → Prop) (r : Int32) (σ' : St) (Q : State → Prop) : Prop := ∀ (H : Heap) (locs : List Loc) (pc : Nat) (ls : Array Slot), decode cc pc = .ok (.ireturn, 1) → va_P g classes (wf σ') H → va_D A (wf σ') → va_S A s.heap H locs → W p l e R s m args below meth c H locs 0 0 Q (F0 m pc ls [.int r])
def RetL (p : Program) (l : Launch) (e : Env) (R : Room) (s : State) (m : MethodId) (args : Array Value) (below : List Frame) (meth : Method) (c : Code) (cc : ByteArray) (g : va_G) (wf : St → va_W) (A : Nat → Prop) (r : Int64) (σ' : St) (Q : State → Prop) : Prop := ∀ (H : Heap) (locs : List Loc) (pc : Nat) (ls : Array Slot), decode cc pc = .ok (.lreturn, 1) → va_P g classes (wf σ') H → va_D A (wf σ') → va_S A s.heap H locs → W p l e R s m args below meth c H locs 0 0 Q (F0 m pc ls [.long r])
def RetV (p : Program) (l : Launch) (e : Env) (R : Room) (s : State) (m : MethodId) (args : Array Value) (below : List Frame) (meth : Method) (c : Code) (cc : ByteArray) (g : va_G) (wf : St → va_W) (A : Nat → Prop) (σ' : St) (Q : State → Prop) : Prop := ∀ (H : Heap) (locs : List Loc) (pc : Nat) (ls : Array Slot), decode cc pc = .ok (.return_, 1) → va_P g classes (wf σ') H → va_D A (wf σ') → va_S A s.heap H locs → W p l e R s m args below meth c H locs 0 0 Q (F0 m pc ls [])
theorem ConI_mk {l : Launch} {g : va_G} {ts : ClassId × ClassId × ClassId} {wf : St → va_W} {y : MethodName} {cc : ByteArray} {nL : Nat} {ret : Option FieldType} {rm : Room} {σ : St} {av : List Value} {r : Int32} {σ' : St} (ty : FieldType) (hret : ret = some ty) (hn : narrow ty (.int r) = .int r) (hc : rm.cells = 0) (hs : rm.slots = 0) (hy : plainName y.cls = true) (hlen : (lg_sl av).length ≤ nL)
    (body : ∀ (p : Program) (e : Env) (s : State) (m : MethodId) (below : List Frame) (meth : Method) (c : Code) (A : Nat → Prop) (Q : State → Prop) (ls : Array Slot), FX p s m av.toArray meth c y.cls cc nL g ts A → RetI p l e rm s m av.toArray below meth c cc g wf A r σ' Q → va_P g classes (wf σ) s.heap → va_D A (wf σ) → va_S A s.heap s.heap [] → lv_has ls nL (lv_args 0 av) → W p l e rm s m av.toArray below meth c s.heap [] 0 0 Q (F0 m 0 ls [])) : ConI l g ts wf y cc nL ret rm σ av r σ' := by
  refine ⟨hc, hs, fun sz => ?_⟩
  refine Met.ofW (cc := cc) (maxL := nL) (ret := ret) hy rfl ?_
  intro p e s m args below meth c s₁ B hml hv
  obtain ⟨rfl, rfl, hP, hD0, hE⟩ := hv
  have hl := lv_entry av (n := nL) hlen
  rw [lg_entry_eq]
  generalize (lg_sl av ++ List.replicate (nL - (lg_sl av).length) Slot.unset).toArray = ls at hl ⊢
  refine body p e s m below meth c (va_A (wf σ) s.heap.size) _ ls ⟨B.exec, B.bytes, hml, findClass_of_methodNamed B.named, fun w hw => atoms_spec B.pre w (List.mem_cons_of_mem _ hw), fun q h => Or.inr h, hE⟩ ?_ hP hD0.self va_S.rf hl
  intro H locs pc ls hd hP' hD' hS'
  exact W.zret B.exec B.bytes (B.returns.trans hret) hn (fun t ht hW => ⟨⟨r, σ', rfl, ⟨rfl, rfl⟩, by rw [ht]; exact hP', hD'⟩, hS'.F ht⟩) hS'.2.2 hd B.notSynchronized
theorem ConL_mk {l : Launch} {g : va_G} {ts : ClassId × ClassId × ClassId} {wf : St → va_W} {y : MethodName} {cc : ByteArray} {nL : Nat} {rm : Room} {σ : St} {av : List Value} {r : Int64} {σ' : St} (hc : rm.cells = 0) (hs : rm.slots = 0) (hy : plainName y.cls = true) (hlen : (lg_sl av).length ≤ nL)
    (body : ∀ (p : Program) (e : Env) (s : State) (m : MethodId) (below : List Frame) (meth : Method) (c : Code) (A : Nat → Prop) (Q : State → Prop) (ls : Array Slot), FX p s m av.toArray meth c y.cls cc nL g ts A → RetL p l e rm s m av.toArray below meth c cc g wf A r σ' Q → va_P g classes (wf σ) s.heap → va_D A (wf σ) → va_S A s.heap s.heap [] → lv_has ls nL (lv_args 0 av) → W p l e rm s m av.toArray below meth c s.heap [] 0 0 Q (F0 m 0 ls [])) : ConL l g ts wf y cc nL (some .long) rm σ av r σ' := by
  refine ⟨hc, hs, fun sz => ?_⟩
  refine Met.ofW (cc := cc) (maxL := nL) (ret := some .long) hy rfl ?_
  intro p e s m args below meth c s₁ B hml hv
  obtain ⟨rfl, rfl, hP, hD0, hE⟩ := hv
  have hl := lv_entry av (n := nL) hlen
  rw [lg_entry_eq]
  generalize (lg_sl av ++ List.replicate (nL - (lg_sl av).length) Slot.unset).toArray = ls at hl ⊢
  refine body p e s m below meth c (va_A (wf σ) s.heap.size) _ ls ⟨B.exec, B.bytes, hml, findClass_of_methodNamed B.named, fun w hw => atoms_spec B.pre w (List.mem_cons_of_mem _ hw), fun q h => Or.inr h, hE⟩ ?_ hP hD0.self va_S.rf hl
  intro H locs pc ls hd hP' hD' hS'
  exact W.lret B.exec B.bytes B.returns (fun t ht hW => ⟨⟨r, σ', rfl, ⟨rfl, rfl⟩, by rw [ht]; exact hP', hD'⟩, hS'.F ht⟩) hS'.2.2 hd B.notSynchronized
theorem ConV_mk {l : Launch} {g : va_G} {ts : ClassId × ClassId × ClassId} {wf : St → va_W} {y : MethodName} {cc : ByteArray} {nL : Nat} {rm : Room} {σ : St} {av : List Value} {σ' : St} (hc : rm.cells = 0) (hs : rm.slots = 0) (hy : plainName y.cls = true) (hlen : (lg_sl av).length ≤ nL)
    (body : ∀ (p : Program) (e : Env) (s : State) (m : MethodId) (below : List Frame) (meth : Method) (c : Code) (A : Nat → Prop) (Q : State → Prop) (ls : Array Slot), FX p s m av.toArray meth c y.cls cc nL g ts A → RetV p l e rm s m av.toArray below meth c cc g wf A σ' Q → va_P g classes (wf σ) s.heap → va_D A (wf σ) → va_S A s.heap s.heap [] → lv_has ls nL (lv_args 0 av) → W p l e rm s m av.toArray below meth c s.heap [] 0 0 Q (F0 m 0 ls [])) : ConV l g ts wf y cc nL none rm σ av σ' := by
  refine ⟨hc, hs, fun sz => ?_⟩
  refine Met.ofW (cc := cc) (maxL := nL) (ret := none) hy rfl ?_
  intro p e s m args below meth c s₁ B hml hv
  obtain ⟨rfl, rfl, hP, hD0, hE⟩ := hv
  have hl := lv_entry av (n := nL) hlen
  rw [lg_entry_eq]
  generalize (lg_sl av ++ List.replicate (nL - (lg_sl av).length) Slot.unset).toArray = ls at hl ⊢
  refine body p e s m below meth c (va_A (wf σ) s.heap.size) _ ls ⟨B.exec, B.bytes, hml, findClass_of_methodNamed B.named, fun w hw => atoms_spec B.pre w (List.mem_cons_of_mem _ hw), fun q h => Or.inr h, hE⟩ ?_ hP hD0.self va_S.rf hl
  intro H locs pc ls hd hP' hD' hS'
  exact W.vret B.exec B.bytes B.returns (fun t ht hW => ⟨⟨σ', rfl, rfl, by rw [ht]; exact hP', hD'⟩, hS'.F ht⟩) hS'.2.2 hd B.notSynchronized
/-- a method of an object: its words -/
def MV (y : MethodName) (bytes : ByteArray) (maxL : Nat) (ret : Option FieldType) (n : Nat) : Prop := Cond.instanceMethod y ∈ uw ∧ Cond.selects y.cls y y ∈ uw ∧ Cond.initialized y.cls ∈ uw ∧ Cond.code y bytes maxL ret ∈ uw ∧ y.cls ≠ "java/lang/invoke/MethodHandle" ∧ y.cls ≠ "java/lang/invoke/VarHandle" ∧ (parseMethodDescriptor y.desc).map (fun d => d.parameters.length) = some n
def MS (y : MethodName) (bytes : ByteArray) (maxL : Nat) (ret : Option FieldType) (n : Nat) : Prop := Cond.static y ∈ uw ∧ Cond.initialized y.cls ∈ uw ∧ Cond.code y bytes maxL ret ∈ uw ∧ y.cls ≠ "java/lang/invoke/MethodHandle" ∧ y.cls ≠ "java/lang/invoke/VarHandle" ∧ (parseMethodDescriptor y.desc).map (fun d => d.parameters.length) = some n
/-- a receiver: a cell of the world, of the method's class -/
def RV (wf : St → va_W) (σ : St) (b : Nat) (C : String) : Prop := ∃ (q0 ci : Nat) (fs : List Value) (T : u_T) (N : Nat), classes[ci]? = some (C, T, N) ∧ (wf σ)[q0]? = some (b, .inr (ci, fs))
section CALLS
variable {p : Program} {l : Launch} {e : Env} {R : Room} {s : State} {m : MethodId} {args : Array Value} {below : List Frame} {meth : Method} {c : Code} {H : Heap} {locs : List Loc} {cells slots : Nat} {Q : State → Prop}
variable {own : String} {cc : ByteArray} {nL : Nat} {g : va_G} {ts : ClassId × ClassId × ClassId} {A : Nat → Prop} {wf : St → va_W} {σ σ' : St} {y : MethodName} {bytes : ByteArray} {maxL n index pc : Nat} {ret : Option FieldType} {rm : Room} {b : Nat} {rest st0 : List Value} {ls : Array Slot}
theorem cl_free (hD : va_D A (wf σ)) (hS : va_S A s.heap H locs) (hA : ∀ q, s.heap.size ≤ q → A q) : ∀ q, va_A (wf σ) H.size q → A q := by
  intro q h
  rcases h with ⟨k, e, h⟩ | h
  · exact hD.2 k (q, e) h
  · exact hA q (Nat.le_trans hS.1 h)
theorem cl_pre (hE : EnvX g ts A s s.heap) (hP : va_P g classes (wf σ) H) (hD : va_D A (wf σ)) (hS : va_S A s.heap H locs) (hA : ∀ q, s.heap.size ≤ q → A q) (av : List Value) : ∀ U : State, U.heap = H → s.WarmedH U.vm → va_Pc av (PreW g ts wf σ H.size) av.toArray U := fun U hU hW => ⟨rfl, by rw [hU], by rw [hU]; exact hP, hD.weaken (fun _ _ _ _ => trivial), hE.call hS hU hW (cl_free hD hS hA)⟩
theorem cl_blind (av : List Value) (sz : Nat) : FrameBlind (va_Pc av (PreW g ts wf σ sz)) := fun a U f mk q => ⟨q.1, q.2.1, q.2.2.1, q.2.2.2.1, q.2.2.2.2.calling⟩
theorem cl_ws (ex : List Cond) (h : ∀ w ∈ ex, w ∈ uw) (hc : Cond.code y bytes maxL ret ∈ uw) : GoodIn uw (ex ++ (Cond.code y bytes maxL ret :: uw)) := uw_good (fun w hw => by
  rcases List.mem_append.mp hw with h1 | h1
  · exact h w h1
  · rcases List.mem_cons.mp h1 with h2 | h2
    · rw [h2]; exact hc
    · exact h2)
theorem cl_V (C : FX p s m args meth c own cc nL g ts A) (hP : va_P g classes (wf σ) H) (hD : va_D A (wf σ)) (hS : va_S A s.heap H locs) (As : List Value) {Qc : Array Value → State → Outcome → State → Prop} (hc0 : rm.cells = 0) (hs0 : rm.slots = 0) (hM : Met l y (.code y bytes maxL ret :: uw) rm (va_Pc (.ref b :: As) (PreW g ts wf σ H.size)) Qc 0 0 (va_A (wf σ) H.size))
    (hY : MV y bytes maxL ret n) (hl : Cond.methodLink own index y ∈ uw) (hrec : RV wf σ b y.cls) (hR : rm.frames + 1 ≤ R.frames ∧ 8 + (maxL + 11) + rm.locals ≤ R.locals) (hcs : cells ≤ R.cells ∧ slots ≤ R.slots) (hn : As.length = n) (hstk : st0 = As.reverse ++ .ref b :: rest) (hcat : (rest.map fun v => v.category).sum ≤ 8) (hsz : ls.size = nL) (hdg : decode cc pc = .ok (.invokevirtual index, 3)) :
    va_Run p l e R s m args below meth c H locs cells slots 0 0 (F0 m pc ls st0) rest (Qc (Value.ref b :: As).toArray) (va_A (wf σ) H.size) := by
  obtain ⟨hx, hb, hml, hown, hts, hA, hE⟩ := C
  obtain ⟨m1, m2, m3, m4, d1, d2, d3⟩ := hY
  obtain ⟨q0, ci, fs, T, N, h1, h3⟩ := hrec
  have hw : GoodIn uw (wsV own index y.cls y (.code y bytes maxL ret :: uw)) := cl_ws [.methodLink own index y, .instanceMethod y, .selects y.cls y y, .initialized y.cls] (fun w hw => by
    simp only [List.mem_cons, List.not_mem_nil, or_false] at hw
    rcases hw with rfl | rfl | rfl | rfl
    · exact hl
    · exact m1
    · exact m2
    · exact m3) m4
  exact va_runV (As := As) (rest := rest) ⟨hx, hb, hml, hown, hts⟩ hM (cwV n hts hw rfl hc0 hs0 ⟨rfl, d1, d2, d3⟩ hR) ⟨cl_blind _ _, va_recv hE.1 hP h1 h3, cl_pre hE hP hD hS hA (.ref b :: As)⟩ rfl hn hsz hstk (lv_room hcat) hdg hcs
theorem cl_S (C : FX p s m args meth c own cc nL g ts A) (hP : va_P g classes (wf σ) H) (hD : va_D A (wf σ)) (hS : va_S A s.heap H locs) (As : List Value) {Qc : Array Value → State → Outcome → State → Prop} (hc0 : rm.cells = 0) (hs0 : rm.slots = 0) (hM : Met l y (.code y bytes maxL ret :: uw) rm (va_Pc As (PreW g ts wf σ H.size)) Qc 0 0 (va_A (wf σ) H.size))
    (hY : MS y bytes maxL ret n) (hl : Cond.methodLink own index y ∈ uw) (hR : rm.frames + 1 ≤ R.frames ∧ 8 + (maxL + 11) + rm.locals ≤ R.locals) (hcs : cells ≤ R.cells ∧ slots ≤ R.slots) (hn : As.length = n) (hstk : st0 = As.reverse ++ rest) (hcat : (rest.map fun v => v.category).sum ≤ 8) (hsz : ls.size = nL) (hdg : decode cc pc = .ok (.invokestatic index, 3)) :
    va_Run p l e R s m args below meth c H locs cells slots 0 0 (F0 m pc ls st0) rest (Qc As.toArray) (va_A (wf σ) H.size) := by
  obtain ⟨hx, hb, hml, hown, hts, hA, hE⟩ := C
  obtain ⟨m1, m3, m4, d1, d2, d3⟩ := hY
  exact va_runS (As := As) (rest := rest) ⟨hx, hb, hml, hown, hts⟩ hM ⟨callB_of n hts (cl_ws [] (fun w hw => by cases hw) m4) rfl hc0 hs0 (hts _ m3) (hts _ hl) ⟨d1, d2, d3⟩ hR, hts _ m1⟩ ⟨cl_blind _ _, cl_pre hE hP hD hS hA As⟩ rfl hn hsz hstk (lv_room hcat) hdg hcs
theorem cl_SN {host : String} (C : FX p s m args meth c own cc nL g ts A) (hP : va_P g classes (wf σ) H) (hD : va_D A (wf σ)) (hS : va_S A s.heap H locs) (As : List Value) {Qc : Array Value → State → Outcome → State → Prop} (hc0 : rm.cells = 0) (hs0 : rm.slots = 0) (hM : Met l y (.code y bytes maxL ret :: uw) rm (va_Pc As (PreW g ts wf σ H.size)) Qc 0 0 (va_A (wf σ) H.size))
    (hY : MS y bytes maxL ret n) (hl : Cond.methodLinkNest own index y host ∈ nestW) (hR : rm.frames + 1 ≤ R.frames ∧ 8 + (maxL + 11) + rm.locals ≤ R.locals) (hcs : cells ≤ R.cells ∧ slots ≤ R.slots) (hn : As.length = n) (hstk : st0 = As.reverse ++ rest) (hcat : (rest.map fun v => v.category).sum ≤ 8) (hsz : ls.size = nL) (hdg : decode cc pc = .ok (.invokestatic index, 3)) :
    va_Run p l e R s m args below meth c H locs cells slots 0 0 (F0 m pc ls st0) rest (Qc As.toArray) (va_A (wf σ) H.size) := by
  obtain ⟨hx, hb, hml, hown, hts, hA, hE⟩ := C
  obtain ⟨m1, m3, m4, d1, d2, d3⟩ := hY
  exact va_runSN (As := As) (rest := rest) ⟨hx, hb, hml, hown, hts⟩ hM ⟨va_cnB n hts (cl_ws [] (fun w hw => by cases hw) m4) rfl hc0 hs0 (hE.2.1 _ hl) (hts _ m3) ⟨d1, d2, d3⟩ hR, hts _ m1, trivial⟩ ⟨cl_blind _ _, cl_pre hE hP hD hS hA As⟩ rfl hn hsz hstk (lv_room hcat) hdg hcs
/-- behind a call -/
theorem cl_i {r : Int32} {a : Array Value} (hr : va_Run p l e R s m args below meth c H locs cells slots 0 0 (F0 m pc ls st0) rest (va_Qi (fun (r' : Int32) (u : St) => r' = r ∧ u = σ') (PostW g wf σ H.size) (va_A (wf σ) H.size) a) (va_A (wf σ) H.size)) (hD : va_D A (wf σ)) (hS : va_S A s.heap H locs) (C : FX p s m args meth c own cc nL g ts A)
    (kk : ∀ (H1 : Heap) (locs1 : List Loc), va_P g classes (wf σ') H1 → va_D A (wf σ') → va_S A s.heap H1 locs1 → W p l e R s m args below meth c H1 locs1 cells slots Q (F0 m (pc + 3) ls (.int r :: rest))) : W p l e R s m args below meth c H locs cells slots Q (F0 m pc ls st0) := by
  have hFc := cl_free hD hS C.2.2.2.2.2.1
  refine va_calli hr hS (fun q _ h => hFc q h) hFc (fun r1 u t H1 locs1 ht hvm hw hB hz1 hk1 hS1 => ?_)
  obtain ⟨rfl, rfl⟩ := hw
  obtain ⟨hP1, hD1⟩ := hB
  rw [ht] at hP1
  exact kk H1 locs1 hP1 (hD1.weaken (fun _ q _ h => hFc q.1 h)) hS1
theorem cl_l {r : Int64} {a : Array Value} (hr : va_Run p l e R s m args below meth c H locs cells slots 0 0 (F0 m pc ls st0) rest (va_Ql (fun (r' : Int64) (u : St) => r' = r ∧ u = σ') (PostW g wf σ H.size) (va_A (wf σ) H.size) a) (va_A (wf σ) H.size)) (hD : va_D A (wf σ)) (hS : va_S A s.heap H locs) (C : FX p s m args meth c own cc nL g ts A)
    (kk : ∀ (H1 : Heap) (locs1 : List Loc), va_P g classes (wf σ') H1 → va_D A (wf σ') → va_S A s.heap H1 locs1 → W p l e R s m args below meth c H1 locs1 cells slots Q (F0 m (pc + 3) ls (.long r :: rest))) : W p l e R s m args below meth c H locs cells slots Q (F0 m pc ls st0) := by
  have hFc := cl_free hD hS C.2.2.2.2.2.1
  refine va_calll hr hS (fun q _ h => hFc q h) hFc (fun r1 u t H1 locs1 ht hvm hw hB hz1 hk1 hS1 => ?_)
  obtain ⟨rfl, rfl⟩ := hw
  obtain ⟨hP1, hD1⟩ := hB
  rw [ht] at hP1
  exact kk H1 locs1 hP1 (hD1.weaken (fun _ q _ h => hFc q.1 h)) hS1
theorem cl_v {a : Array Value} (hr : va_Run p l e R s m args below meth c H locs cells slots 0 0 (F0 m pc ls st0) rest (va_Qv (fun (u : St) => u = σ') (PostW g wf σ H.size) (va_A (wf σ) H.size) a) (va_A (wf σ) H.size)) (hD : va_D A (wf σ)) (hS : va_S A s.heap H locs) (C : FX p s m args meth c own cc nL g ts A)
    (kk : ∀ (H1 : Heap) (locs1 : List Loc), va_P g classes (wf σ') H1 → va_D A (wf σ') → va_S A s.heap H1 locs1 → W p l e R s m args below meth c H1 locs1 cells slots Q (F0 m (pc + 3) ls rest)) : W p l e R s m args below meth c H locs cells slots Q (F0 m pc ls st0) := by
  have hFc := cl_free hD hS C.2.2.2.2.2.1
  refine va_callv hr hS (fun q _ h => hFc q h) hFc (fun u t H1 locs1 ht hvm hw hB hz1 hk1 hS1 => ?_)
  subst hw
  obtain ⟨hP1, hD1⟩ := hB
  rw [ht] at hP1
  exact kk H1 locs1 hP1 (hD1.weaken (fun _ q _ h => hFc q.1 h)) hS1
end CALLS
