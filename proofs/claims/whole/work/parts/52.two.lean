theorem D_left {A : Nat → Prop} {X Y : va_W} (h : va_D A (X ++ Y)) : va_D A X := by
  have f : ∀ (i : Nat) (p : Nat × va_E), X[i]? = some p → (X ++ Y)[i]? = some p := fun i p hp => by
    rw [List.getElem?_append_left (List.getElem?_eq_some_iff.mp hp).1]; exact hp
  exact ⟨fun i j p q hp hq e => h.1 i j p q (f i p hp) (f j q hq) e, fun k q hq => h.2 k q (f k q hq)⟩
theorem D_right {A : Nat → Prop} {X Y : va_W} (h : va_D A (X ++ Y)) : va_D A Y := by
  have f : ∀ (i : Nat) (p : Nat × va_E), Y[i]? = some p → (X ++ Y)[X.length + i]? = some p := fun i p hp => ga hp
  refine ⟨fun i j p q hp hq e => ?_, fun k q hq => h.2 _ q (f k q hq)⟩
  have := h.1 _ _ p q (f i p hp) (f j q hq) e
  omega
theorem D_apart {A : Nat → Prop} {X Y : va_W} (h : va_D A (X ++ Y)) : ∀ (i j : Nat) (x y : Nat × va_E), X[i]? = some x → Y[j]? = some y → x.1 = y.1 → False := by
  intro i j x y hx hy e
  have hl := (List.getElem?_eq_some_iff.mp hx).1
  have h1 : (X ++ Y)[i]? = some x := by rw [List.getElem?_append_left hl]; exact hx
  have := h.1 i (X.length + j) x y h1 (ga hy) e
  omega
section TWO
variable {g : va_G} {A : Nat → Prop} {X X' Y Y' : va_W} {H H1 : Heap}
theorem two_l (hPy : va_P g classes Y H) (hD : va_D A (X ++ Y)) (hk : ∀ q : Nat, q < H.size → ¬ va_A X H.size q → H1[q]? = H[q]?) (hD1 : va_D (va_A X H.size) X') (hFc : ∀ q, va_A X H.size q → A q) : va_P g classes Y H1 ∧ va_D A (X' ++ Y) := by
  have ap : ∀ (k : Nat) (q : Nat × va_E), Y[k]? = some q → q.1 < H.size ∧ ¬ va_A X H.size q.1 := by
    intro k q hq
    have hl := (hPy k q hq).lt
    refine ⟨hl, fun h => ?_⟩
    rcases h with ⟨i, e, h⟩ | h
    · exact D_apart hD i k (q.1, e) q h hq rfl
    · omega
  refine ⟨fun k q hq => (hPy k q hq).kept (hk q.1 (ap k q hq).1 (ap k q hq).2), va_D.app (hD1.weaken (fun _ q _ h => hFc q.1 h)) (D_right hD) (fun i j x y hx hy hxy => ?_)⟩
  exact (ap j y hy).2 (by rw [← hxy]; exact hD1.2 i x hx)
theorem two_r (hPx : va_P g classes X H) (hD : va_D A (X ++ Y)) (hk : ∀ q : Nat, q < H.size → ¬ va_A Y H.size q → H1[q]? = H[q]?) (hD1 : va_D (va_A Y H.size) Y') (hFc : ∀ q, va_A Y H.size q → A q) : va_P g classes X H1 ∧ va_D A (X ++ Y') := by
  have ap : ∀ (k : Nat) (q : Nat × va_E), X[k]? = some q → q.1 < H.size ∧ ¬ va_A Y H.size q.1 := by
    intro k q hq
    have hl := (hPx k q hq).lt
    refine ⟨hl, fun h => ?_⟩
    rcases h with ⟨i, e, h⟩ | h
    · exact D_apart hD k i q (q.1, e) hq h rfl
    · omega
  refine ⟨fun k q hq => (hPx k q hq).kept (hk q.1 (ap k q hq).1 (ap k q hq).2), va_D.app (D_left hD) (hD1.weaken (fun _ q _ h => hFc q.1 h)) (fun i j x y hx hy hxy => ?_)⟩
  exact (ap i x hx).2 (by rw [hxy]; exact hD1.2 j y hy)
end TWO
section FCALL
variable {p : Program} {l : Launch} {e : Env} {R : Room} {s : State} {m : MethodId} {args : Array Value} {below : List Frame} {meth : Method} {c : Code} {H : Heap} {locs : List Loc} {cells slots : Nat} {Q : State → Prop}
variable {own : String} {cc : ByteArray} {nL : Nat} {g : va_G} {ts : ClassId × ClassId × ClassId} {A : Nat → Prop} {a a2 : Nat → Nat} {σ σ' τ τ' : St} {y : MethodName} {bytes : ByteArray} {maxL n index pc b : Nat} {ret : Option FieldType} {rm : Room} {rest st0 As : List Value} {ls : Array Slot}
/-- calls of the class and of the model, side by side -/
theorem xI {r : Int32} (rest : List Value) (C : FX p s m args meth c own cc nL g ts A) (hP : va_P g classes (WC ts a σ) H) (hPm : va_P g classes (WM ts a2 τ) H) (hD : va_D A (WC ts a σ ++ WM ts a2 τ)) (hS : va_S A s.heap H locs) (hM : ConI l g ts (WC ts a) y bytes maxL ret rm σ (.ref b :: As) r σ') (hY : MV y bytes maxL ret n) (hl : Cond.methodLink own index y ∈ uw) (hrec : RV (WC ts a) σ b y.cls) (hdg : decode cc pc = .ok (.invokevirtual index, 3)) (hR : rm.frames + 1 ≤ R.frames ∧ 8 + (maxL + 11) + rm.locals ≤ R.locals) (hcs : cells ≤ R.cells ∧ slots ≤ R.slots) (hn : As.length = n) (hstk : st0 = As.reverse ++ .ref b :: rest) (hcat : (rest.map fun v => v.category).sum ≤ 8) (hsz : ls.size = nL)
    (kk : ∀ (H1 : Heap) (locs1 : List Loc), va_P g classes (WC ts a σ') H1 → va_P g classes (WM ts a2 τ) H1 → va_D A (WC ts a σ' ++ WM ts a2 τ) → va_S A s.heap H1 locs1 → W p l e R s m args below meth c H1 locs1 cells slots Q (F0 m (pc + 3) ls (.int r :: rest))) : W p l e R s m args below meth c H locs cells slots Q (F0 m pc ls st0) := by
  have hFc := cl_free (wf := WC ts a) (D_left hD) hS C.2.2.2.2.2.1
  refine va_calli (cl_V C hP (D_left hD) hS As hM.1 hM.2.1 (hM.2.2 _) hY hl hrec hR hcs hn hstk hcat hsz hdg) hS (fun q _ h => hFc q h) hFc (fun r1 u t H1 locs1 ht hvm hw hB hz1 hk1 hS1 => ?_)
  obtain ⟨rfl, rfl⟩ := hw
  obtain ⟨hP1, hD1⟩ := hB
  rw [ht] at hP1
  obtain ⟨h1, h2⟩ := two_l hPm hD hk1 hD1 hFc
  exact kk H1 locs1 hP1 h1 h2 hS1
theorem xL {r : Int64} (rest : List Value) (C : FX p s m args meth c own cc nL g ts A) (hP : va_P g classes (WC ts a σ) H) (hPm : va_P g classes (WM ts a2 τ) H) (hD : va_D A (WC ts a σ ++ WM ts a2 τ)) (hS : va_S A s.heap H locs) (hM : ConL l g ts (WC ts a) y bytes maxL ret rm σ (.ref b :: As) r σ') (hY : MV y bytes maxL ret n) (hl : Cond.methodLink own index y ∈ uw) (hrec : RV (WC ts a) σ b y.cls) (hdg : decode cc pc = .ok (.invokevirtual index, 3)) (hR : rm.frames + 1 ≤ R.frames ∧ 8 + (maxL + 11) + rm.locals ≤ R.locals) (hcs : cells ≤ R.cells ∧ slots ≤ R.slots) (hn : As.length = n) (hstk : st0 = As.reverse ++ .ref b :: rest) (hcat : (rest.map fun v => v.category).sum ≤ 8) (hsz : ls.size = nL)
    (kk : ∀ (H1 : Heap) (locs1 : List Loc), va_P g classes (WC ts a σ') H1 → va_P g classes (WM ts a2 τ) H1 → va_D A (WC ts a σ' ++ WM ts a2 τ) → va_S A s.heap H1 locs1 → W p l e R s m args below meth c H1 locs1 cells slots Q (F0 m (pc + 3) ls (.long r :: rest))) : W p l e R s m args below meth c H locs cells slots Q (F0 m pc ls st0) := by
  have hFc := cl_free (wf := WC ts a) (D_left hD) hS C.2.2.2.2.2.1
  refine va_calll (cl_V C hP (D_left hD) hS As hM.1 hM.2.1 (hM.2.2 _) hY hl hrec hR hcs hn hstk hcat hsz hdg) hS (fun q _ h => hFc q h) hFc (fun r1 u t H1 locs1 ht hvm hw hB hz1 hk1 hS1 => ?_)
  obtain ⟨rfl, rfl⟩ := hw
  obtain ⟨hP1, hD1⟩ := hB
  rw [ht] at hP1
  obtain ⟨h1, h2⟩ := two_l hPm hD hk1 hD1 hFc
  exact kk H1 locs1 hP1 h1 h2 hS1
theorem mI {r : Int32} (rest : List Value) (C : FX p s m args meth c own cc nL g ts A) (hP : va_P g classes (WC ts a σ) H) (hPm : va_P g classes (WM ts a2 τ) H) (hD : va_D A (WC ts a σ ++ WM ts a2 τ)) (hS : va_S A s.heap H locs) (hM : ConI l g ts (WM ts a2) y bytes maxL ret rm τ (.ref b :: As) r τ') (hY : MV y bytes maxL ret n) (hl : Cond.methodLink own index y ∈ uw) (hrec : RV (WM ts a2) τ b y.cls) (hdg : decode cc pc = .ok (.invokevirtual index, 3)) (hR : rm.frames + 1 ≤ R.frames ∧ 8 + (maxL + 11) + rm.locals ≤ R.locals) (hcs : cells ≤ R.cells ∧ slots ≤ R.slots) (hn : As.length = n) (hstk : st0 = As.reverse ++ .ref b :: rest) (hcat : (rest.map fun v => v.category).sum ≤ 8) (hsz : ls.size = nL)
    (kk : ∀ (H1 : Heap) (locs1 : List Loc), va_P g classes (WC ts a σ) H1 → va_P g classes (WM ts a2 τ') H1 → va_D A (WC ts a σ ++ WM ts a2 τ') → va_S A s.heap H1 locs1 → W p l e R s m args below meth c H1 locs1 cells slots Q (F0 m (pc + 3) ls (.int r :: rest))) : W p l e R s m args below meth c H locs cells slots Q (F0 m pc ls st0) := by
  have hFc := cl_free (wf := WM ts a2) (D_right hD) hS C.2.2.2.2.2.1
  refine va_calli (cl_V (wf := WM ts a2) C hPm (D_right hD) hS As hM.1 hM.2.1 (hM.2.2 _) hY hl hrec hR hcs hn hstk hcat hsz hdg) hS (fun q _ h => hFc q h) hFc (fun r1 u t H1 locs1 ht hvm hw hB hz1 hk1 hS1 => ?_)
  obtain ⟨rfl, rfl⟩ := hw
  obtain ⟨hP1, hD1⟩ := hB
  rw [ht] at hP1
  obtain ⟨h1, h2⟩ := two_r hP hD hk1 hD1 hFc
  exact kk H1 locs1 h1 hP1 h2 hS1
theorem mL {r : Int64} (rest : List Value) (C : FX p s m args meth c own cc nL g ts A) (hP : va_P g classes (WC ts a σ) H) (hPm : va_P g classes (WM ts a2 τ) H) (hD : va_D A (WC ts a σ ++ WM ts a2 τ)) (hS : va_S A s.heap H locs) (hM : ConL l g ts (WM ts a2) y bytes maxL ret rm τ (.ref b :: As) r τ') (hY : MV y bytes maxL ret n) (hl : Cond.methodLink own index y ∈ uw) (hrec : RV (WM ts a2) τ b y.cls) (hdg : decode cc pc = .ok (.invokevirtual index, 3)) (hR : rm.frames + 1 ≤ R.frames ∧ 8 + (maxL + 11) + rm.locals ≤ R.locals) (hcs : cells ≤ R.cells ∧ slots ≤ R.slots) (hn : As.length = n) (hstk : st0 = As.reverse ++ .ref b :: rest) (hcat : (rest.map fun v => v.category).sum ≤ 8) (hsz : ls.size = nL)
    (kk : ∀ (H1 : Heap) (locs1 : List Loc), va_P g classes (WC ts a σ) H1 → va_P g classes (WM ts a2 τ') H1 → va_D A (WC ts a σ ++ WM ts a2 τ') → va_S A s.heap H1 locs1 → W p l e R s m args below meth c H1 locs1 cells slots Q (F0 m (pc + 3) ls (.long r :: rest))) : W p l e R s m args below meth c H locs cells slots Q (F0 m pc ls st0) := by
  have hFc := cl_free (wf := WM ts a2) (D_right hD) hS C.2.2.2.2.2.1
  refine va_calll (cl_V (wf := WM ts a2) C hPm (D_right hD) hS As hM.1 hM.2.1 (hM.2.2 _) hY hl hrec hR hcs hn hstk hcat hsz hdg) hS (fun q _ h => hFc q h) hFc (fun r1 u t H1 locs1 ht hvm hw hB hz1 hk1 hS1 => ?_)
  obtain ⟨rfl, rfl⟩ := hw
  obtain ⟨hP1, hD1⟩ := hB
  rw [ht] at hP1
  obtain ⟨h1, h2⟩ := two_r hP hD hk1 hD1 hFc
  exact kk H1 locs1 h1 hP1 h2 hS1
theorem xA {r : Int32} (rest : List Value) (C : FX p s m args meth c own cc nL g ts A) (hO : va_AO "AsInBertha$Shelf" s) (hP : va_P g classes (WC ts a σ) H) (hPm : va_P g classes (WM ts a2 τ) H) (hD : va_D A (WC ts a σ ++ WM ts a2 τ)) (hS : va_S A s.heap H locs) (hM : ConAI l g ts y bytes maxL rm a σ (.ref b :: As) r σ') (hY : MV y bytes maxL (some .int) n) (hl : Cond.methodLink own index y ∈ uw) (hrec : RV (WC ts a) σ b y.cls) (hdg : decode cc pc = .ok (.invokevirtual index, 3)) (hR : rm.frames + 1 ≤ R.frames ∧ 8 + (maxL + 11) + rm.locals ≤ R.locals) (hcs : cells + 4 ≤ R.cells ∧ slots + 267 ≤ R.slots) (hn : As.length = n) (hstk : st0 = As.reverse ++ .ref b :: rest) (hcat : (rest.map fun v => v.category).sum ≤ 8) (hsz : ls.size = nL)
    (kk : ∀ (a' : Nat → Nat) (H1 : Heap) (locs1 : List Loc), keepA a a' → va_P g classes (WC ts a' σ') H1 → va_P g classes (WM ts a2 τ) H1 → va_D A (WC ts a' σ' ++ WM ts a2 τ) → va_S A s.heap H1 locs1 → W p l e R s m args below meth c H1 locs1 (cells + 4) (slots + 267) Q (F0 m (pc + 3) ls (.int r :: rest))) : W p l e R s m args below meth c H locs cells slots Q (F0 m pc ls st0) := by
  have hFc := cl_free (wf := WC ts a) (D_left hD) hS C.2.2.2.2.2.1
  refine aI rest C hO hP (D_left hD) hS hM hY hl hrec hdg hR hcs hn hstk hcat hsz (fun a' H1 locs1 hk hP1 hD1 hk1 hS1 => ?_)
  obtain ⟨h1, h2⟩ := two_l hPm hD hk1 hD1 hFc
  exact kk a' H1 locs1 hk hP1 h1 h2 hS1
end FCALL
