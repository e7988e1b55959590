theorem q_arrI : Cond.arrayClass .int ∈ uw := by decide +kernel
theorem q_arrL : Cond.arrayClass .long ∈ uw := by decide +kernel
theorem ga {ws t : va_W} {i : Nat} {x : Nat × va_E} (h : t[i]? = some x) : (ws ++ t)[ws.length + i]? = some x := by
  rw [List.getElem?_append_right (Nat.le_add_right _ _), Nat.add_sub_cancel_left]; exact h
theorem gs {ws t : va_W} {i : Nat} {x : Nat × va_E} : (ws ++ t).set (ws.length + i) x = ws ++ t.set i x := by
  rw [List.set_append_right _ _ (Nat.le_add_right _ _), Nat.add_sub_cancel_left]
def PreG (g : va_G) (ts : ClassId × ClassId × ClassId) (ws : va_W) (sz : Nat) : State → Prop := fun U => U.heap.size = sz ∧ va_P g classes ws U.heap ∧ va_D (fun _ => True) ws ∧ EnvX g ts (va_A ws sz) U U.heap ∧ va_AO "AsInBertha$Shelf" U
def ConG (l : Launch) (g : va_G) (ts : ClassId × ClassId × ClassId) (y : MethodName) (cc : ByteArray) (nL : Nat) (rm : Room) (mc ms : Nat) (ws : va_W) (av : List Value) (Post : va_W → Prop) : Prop := rm.cells = mc ∧ rm.slots = ms ∧ ∀ sz, Met l y (.code y cc nL none :: uw) rm (va_Pc av (PreG g ts ws sz)) (va_Qv (fun (w : va_W) => Post w) (fun w t => va_P g classes w t.heap ∧ va_D (va_A ws sz) w) (va_A ws sz)) mc ms (va_A ws sz)
def RetG (p : Program) (l : Launch) (e : Env) (R : Room) (s : State) (m : MethodId) (args : Array Value) (below : List Frame) (meth : Method) (c : Code) (cc : ByteArray) (g : va_G) (A : Nat → Prop) (mc ms : Nat) (Post : va_W → Prop) (Q : State → Prop) : Prop := ∀ (H : Heap) (locs : List Loc) (pc : Nat) (ls : Array Slot) (w : va_W), Post w → decode cc pc = .ok (.return_, 1) → va_P g classes w H → va_D A w → va_S A s.heap H locs → W p l e R s m args below meth c H locs mc ms Q (F0 m pc ls [])
theorem ConG_mk {l : Launch} {g : va_G} {ts : ClassId × ClassId × ClassId} {y : MethodName} {cc : ByteArray} {nL mc ms : Nat} {rm : Room} {ws : va_W} {av : List Value} {Post : va_W → Prop} (hc : rm.cells = mc) (hs : rm.slots = ms) (hy : plainName y.cls = true) (hyn : y.name = "<init>") (hlen : (lg_sl av).length ≤ nL)
    (body : ∀ (p : Program) (e : Env) (s : State) (m : MethodId) (below : List Frame) (meth : Method) (c : Code) (A : Nat → Prop) (Q : State → Prop) (ls : Array Slot), FX p s m av.toArray meth c y.cls cc nL g ts A → meth.name = "<init>" → va_AO "AsInBertha$Shelf" s → RetG p l e rm s m av.toArray below meth c cc g A mc ms Post Q → va_P g classes ws s.heap → va_D A ws → va_S A s.heap s.heap [] → lv_has ls nL (lv_args 0 av) → W p l e rm s m av.toArray below meth c s.heap [] 0 0 Q (F0 m 0 ls [])) : ConG l g ts y cc nL rm mc ms ws av Post := by
  refine ⟨hc, hs, fun sz => ?_⟩
  refine Met.ofW (cc := cc) (maxL := nL) (ret := none) hy rfl ?_
  intro p e s m args below meth c s₁ B hml hv
  obtain ⟨rfl, rfl, hP, hD0, hE, hO⟩ := hv
  have hl := lv_entry av (n := nL) hlen
  rw [lg_entry_eq]
  generalize (lg_sl av ++ List.replicate (nL - (lg_sl av).length) Slot.unset).toArray = ls at hl ⊢
  refine body p e s m below meth c (va_A ws s.heap.size) _ ls ⟨B.exec, B.bytes, hml, findClass_of_methodNamed B.named, fun w hw => atoms_spec B.pre w (List.mem_cons_of_mem _ hw), fun q h => Or.inr h, hE⟩ ((name_of_methodNamed B.named B.method).1.trans hyn) hO ?_ hP hD0.self va_S.rf hl
  intro H locs pc ls w hw hd hP' hD' hS'
  exact W.vret B.exec B.bytes B.returns (fun t ht hW => ⟨⟨w, rfl, hw, by rw [ht]; exact hP', hD'⟩, hS'.F ht⟩) hS'.2.2 hd B.notSynchronized
def MI (y : MethodName) (bytes : ByteArray) (maxL : Nat) (n : Nat) : Prop := y.name = "<init>" ∧ Cond.instanceMethod y ∈ uw ∧ Cond.initialized y.cls ∈ uw ∧ Cond.code y bytes maxL none ∈ uw ∧ y.cls ≠ "java/lang/invoke/MethodHandle" ∧ y.cls ≠ "java/lang/invoke/VarHandle" ∧ (parseMethodDescriptor y.desc).map (fun d => d.parameters.length) = some n
section GCALL
variable {p : Program} {l : Launch} {e : Env} {R : Room} {s : State} {m : MethodId} {args : Array Value} {below : List Frame} {meth : Method} {c : Code} {H : Heap} {locs : List Loc} {cells slots mc ms : Nat} {Q : State → Prop}
variable {own : String} {cc : ByteArray} {nL : Nat} {g : va_G} {ts : ClassId × ClassId × ClassId} {A : Nat → Prop} {ws : va_W} {y : MethodName} {bytes : ByteArray} {maxL n index pc b : Nat} {rm : Room} {rest st0 As : List Value} {ls : Array Slot} {Post : va_W → Prop}
theorem gc_free (hD : va_D A ws) (hS : va_S A s.heap H locs) (hA : ∀ q, s.heap.size ≤ q → A q) : ∀ q, va_A ws H.size q → A q := cl_free (wf := fun _ => ws) (σ := (fun _ _ => 0, fun _ _ => 0, fun _ _ _ => 0, fun _ _ _ => 0, fun _ => 0)) hD hS hA
theorem gc_pre (hE : EnvX g ts A s s.heap) (hO : va_AO "AsInBertha$Shelf" s) (hP : va_P g classes ws H) (hD : va_D A ws) (hS : va_S A s.heap H locs) (hA : ∀ q, s.heap.size ≤ q → A q) (av : List Value) : ∀ U : State, U.heap = H → s.WarmedH U.vm → va_Pc av (PreG g ts ws H.size) av.toArray U := fun U hU hW => ⟨rfl, by rw [hU], by rw [hU]; exact hP, hD.weaken (fun _ _ _ _ => trivial), hE.call hS hU hW (gc_free hD hS hA), va_AO.moved hW.alike hO⟩
theorem gc_blind (av : List Value) (sz : Nat) : FrameBlind (va_Pc av (PreG g ts ws sz)) := fun a U f mk q => ⟨q.1, q.2.1, q.2.2.1, q.2.2.2.1, q.2.2.2.2.1.calling, va_AO.moved (u := U) (U := U.calling f mk a) (Vm.Alike.refl U.vm) q.2.2.2.2.2⟩
theorem gc_k {a : Array Value} (hr : va_Run p l e R s m args below meth c H locs cells slots mc ms (F0 m pc ls st0) rest (va_Qv (fun (w : va_W) => Post w) (fun w t => va_P g classes w t.heap ∧ va_D (va_A ws H.size) w) (va_A ws H.size) a) (va_A ws H.size)) (hD : va_D A ws) (hS : va_S A s.heap H locs) (hA : ∀ q, s.heap.size ≤ q → A q)
    (kk : ∀ (w : va_W) (H1 : Heap) (locs1 : List Loc), Post w → va_P g classes w H1 → va_D A w → va_S A s.heap H1 locs1 → W p l e R s m args below meth c H1 locs1 (cells + mc) (slots + ms) Q (F0 m (pc + 3) ls rest)) : W p l e R s m args below meth c H locs cells slots Q (F0 m pc ls st0) := by
  have hFc := gc_free hD hS hA
  refine va_callv hr hS (fun q _ h => hFc q h) hFc (fun u t H1 locs1 ht hvm hw hB hz1 hk1 hS1 => ?_)
  obtain ⟨hP1, hD1⟩ := hB
  rw [ht] at hP1
  exact kk u H1 locs1 hw hP1 (hD1.weaken (fun _ q _ h => hFc q.1 h)) hS1
theorem gI (rest : List Value) (C : FX p s m args meth c own cc nL g ts A) (hO : va_AO "AsInBertha$Shelf" s) (hP : va_P g classes ws H) (hD : va_D A ws) (hS : va_S A s.heap H locs) (hM : ConG l g ts y bytes maxL rm mc ms ws (.ref b :: As) Post) (hY : MI y bytes maxL n) (hl : Cond.methodLink own index y ∈ uw) (hdg : decode cc pc = .ok (.invokespecial index, 3)) (hR : rm.frames + 1 ≤ R.frames ∧ 8 + (maxL + 11) + rm.locals ≤ R.locals) (hcs : cells + mc ≤ R.cells ∧ slots + ms ≤ R.slots) (hn : As.length = n) (hstk : st0 = As.reverse ++ .ref b :: rest) (hcat : (rest.map fun v => v.category).sum ≤ 8) (hsz : ls.size = nL)
    (kk : ∀ (w : va_W) (H1 : Heap) (locs1 : List Loc), Post w → va_P g classes w H1 → va_D A w → va_S A s.heap H1 locs1 → W p l e R s m args below meth c H1 locs1 (cells + mc) (slots + ms) Q (F0 m (pc + 3) ls rest)) : W p l e R s m args below meth c H locs cells slots Q (F0 m pc ls st0) := by
  obtain ⟨hx, hb, hml, hown, hts, hA, hE⟩ := C
  obtain ⟨y1, m1, m3, m4, d1, d2, d3⟩ := hY
  exact gc_k (va_runI (As := As) (rest := rest) ⟨hx, hb, hml, hown, hts⟩ (hM.2.2 H.size) ⟨callB_of n hts (cl_ws [] (fun w hw => by cases hw) m4) rfl hM.1 hM.2.1 (hts _ m3) (hts _ hl) ⟨d1, d2, d3⟩ hR, y1, hts _ m1⟩ ⟨gc_blind _ _, gc_pre hE hO hP hD hS hA (.ref b :: As)⟩ rfl hn hsz hstk (lv_room hcat) hdg hcs) hD hS hA kk
theorem gIN {host : String} (rest : List Value) (C : FX p s m args meth c own cc nL g ts A) (hO : va_AO "AsInBertha$Shelf" s) (hP : va_P g classes ws H) (hD : va_D A ws) (hS : va_S A s.heap H locs) (hM : ConG l g ts y bytes maxL rm mc ms ws (.ref b :: As) Post) (hY : MI y bytes maxL n) (hl : Cond.methodLinkNest own index y host ∈ nestW) (hdg : decode cc pc = .ok (.invokespecial index, 3)) (hR : rm.frames + 1 ≤ R.frames ∧ 8 + (maxL + 11) + rm.locals ≤ R.locals) (hcs : cells + mc ≤ R.cells ∧ slots + ms ≤ R.slots) (hn : As.length = n) (hstk : st0 = As.reverse ++ .ref b :: rest) (hcat : (rest.map fun v => v.category).sum ≤ 8) (hsz : ls.size = nL)
    (kk : ∀ (w : va_W) (H1 : Heap) (locs1 : List Loc), Post w → va_P g classes w H1 → va_D A w → va_S A s.heap H1 locs1 → W p l e R s m args below meth c H1 locs1 (cells + mc) (slots + ms) Q (F0 m (pc + 3) ls rest)) : W p l e R s m args below meth c H locs cells slots Q (F0 m pc ls st0) := by
  obtain ⟨hx, hb, hml, hown, hts, hA, hE⟩ := C
  obtain ⟨y1, m1, m3, m4, d1, d2, d3⟩ := hY
  exact gc_k (va_runIN (As := As) (rest := rest) ⟨hx, hb, hml, hown, hts⟩ (hM.2.2 H.size) ⟨va_cnB n hts (cl_ws [] (fun w hw => by cases hw) m4) rfl hM.1 hM.2.1 (hE.2.1 _ hl) (hts _ m3) ⟨d1, d2, d3⟩ hR, y1, hts _ m1⟩ ⟨gc_blind _ _, gc_pre hE hO hP hD hS hA (.ref b :: As)⟩ rfl hn hsz hstk (lv_room hcat) hdg hcs) hD hS hA kk
/-- a fill over any world -/
def st2 (k : Nat) : St := (fun _ _ => 0, fun _ _ => 0, fun _ _ _ => 0, fun _ _ _ => 0, fun _ => k)
theorem gFill (rest : List Value) (C : FX p s m args meth c own cc nL g ts A) (hP : va_P g classes ws H) (hD : va_D A ws) (hS : va_S A s.heap H locs) {k n q : Nat} {f : Nat → Int32} {v : Int32} (h1 : ws[k]? = some (q, .inl (ts.1, n, .inl f))) (hn : n ≤ 2000000000) (hl : Cond.methodLink own index yJ7_fill_53178 ∈ uw) (hdg : decode cc pc = .ok (.invokestatic index, 3)) (hR : 0 + 1 ≤ R.frames ∧ 8 + (4 + 11) + 0 ≤ R.locals) (hcs : cells ≤ R.cells ∧ slots ≤ R.slots) (hcat : (rest.map fun v => v.category).sum ≤ 8) (hsz : ls.size = nL)
    (kk : ∀ (H1 : Heap) (locs1 : List Loc), va_P g classes (ws.set k (q, .inl (ts.1, n, .inl (fillA f n v)))) H1 → va_D A (ws.set k (q, .inl (ts.1, n, .inl (fillA f n v)))) → va_S A s.heap H1 locs1 → W p l e R s m args below meth c H1 locs1 cells slots Q (F0 m (pc + 3) ls rest)) : W p l e R s m args below meth c H locs cells slots Q (F0 m pc ls (.int v :: .ref q :: rest)) :=
  tV (wf := fun z => if z.2.2.2.2 0 = 0 then ws else ws.set k (q, .inl (ts.1, n, .inl (fillA f n v)))) (σ := st2 0) (σ' := st2 1) (As := [.ref q, .int v]) rest C hP hD hS (c_fillI (k := k) (f := f) h1 rfl hn) ms_fillI hl hdg hR hcs rfl rfl hcat hsz kk
/-- the array's class is the one that the tables have -/
theorem clsI {cA : ClassId} (hE : EnvX g ts A s s.heap) (hK : va_K g classes (tys ts ++ [(cA, .int)]) s) : cA = ts.1 := by
  have h1 : s.vm.findClass ("[" ++ FieldType.int.toString) = some cA := (hK.2 3 _ rfl).2
  have h2 : s.vm.findClass ("[" ++ FieldType.int.toString) = some ts.1 := (hE.1.2 0 _ rfl).2
  exact Option.some.inj (h1.symm.trans h2)
theorem clsL {cA : ClassId} (hE : EnvX g ts A s s.heap) (hK : va_K g classes (tys ts ++ [(cA, .long)]) s) : cA = ts.2.1 := by
  have h1 : s.vm.findClass ("[" ++ FieldType.long.toString) = some cA := (hK.2 3 _ rfl).2
  have h2 : s.vm.findClass ("[" ++ FieldType.long.toString) = some ts.2.1 := (hE.1.2 1 _ rfl).2
  exact Option.some.inj (h1.symm.trans h2)
theorem clsS {cA : ClassId} (hE : EnvX g ts A s s.heap) (hK : va_K g classes (tys ts ++ [(cA, .object "AsInBertha$Shelf")]) s) : cA = ts.2.2 := by
  obtain ⟨_, _, _, _, _, h1⟩ := (hK.2 3 _ rfl).2
  obtain ⟨_, _, _, _, _, h2⟩ := (hE.1.2 2 _ rfl).2
  exact Option.some.inj (h1.symm.trans h2)
end GCALL
