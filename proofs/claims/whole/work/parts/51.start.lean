set_option maxRecDepth 20000 in
theorem sa_hund {args : Array Value} {s : State} {A : Nat → Prop} (hs : ∀ c ∈ flatC (Jvm.Cond.and given_1 narrow_1), c.before args s = true) (hA : ∀ a : Nat, a < s.heap.size → ¬ A a) : ∃ t : Nat, (Term.static "AsInBertha" "HUNDREDS" "[J").eval args s none [] s = some (.ref t) ∧ va_T .long t 7 (fun j => .long (hundA j)) A s s.heap := by
  refine va_Tof (tm := (.static "AsInBertha" "HUNDREDS" "[J")) (f := fun j => .long (hundA j)) (by decide) (hs _ (by decide +kernel)) (va_eqt (z := 7) (hs _ (by decide +kernel))) (fun j hj => ?_) hA
  rcases (show j = 0 ∨ j = 1 ∨ j = 2 ∨ j = 3 ∨ j = 4 ∨ j = 5 ∨ j = 6 by omega) with rfl | rfl | rfl | rfl | rfl | rfl | rfl
  · exact va_eqtl (z := 1) (hs _ (by decide +kernel))
  · exact va_eqtl (z := 100) (hs _ (by decide +kernel))
  · exact va_eqtl (z := 10000) (hs _ (by decide +kernel))
  · exact va_eqtl (z := 1000000) (hs _ (by decide +kernel))
  · exact va_eqtl (z := 100000000) (hs _ (by decide +kernel))
  · exact va_eqtl (z := 10000000000) (hs _ (by decide +kernel))
  · exact va_eqtl (z := 1000000000000) (hs _ (by decide +kernel))
set_option maxRecDepth 20000 in
theorem sa_above {args : Array Value} {s : State} {A : Nat → Prop} (hs : ∀ c ∈ flatC (Jvm.Cond.and given_1 narrow_1), c.before args s = true) (hA : ∀ a : Nat, a < s.heap.size → ¬ A a) : ∃ t : Nat, (Term.static "AsInBertha$Spellings" "ABOVE" "[I").eval args s none [] s = some (.ref t) ∧ va_T .int t 8 (fun j => .int (aboveA j)) A s s.heap := by
  refine va_Tof (tm := (.static "AsInBertha$Spellings" "ABOVE" "[I")) (f := fun j => .int (aboveA j)) (by decide) (hs _ (by decide +kernel)) (va_eqt (z := 8) (hs _ (by decide +kernel))) (fun j hj => ?_) hA
  rcases (show j = 0 ∨ j = 1 ∨ j = 2 ∨ j = 3 ∨ j = 4 ∨ j = 5 ∨ j = 6 ∨ j = 7 by omega) with rfl | rfl | rfl | rfl | rfl | rfl | rfl | rfl
  · exact va_eqt (z := 0) (hs _ (by decide +kernel))
  · exact va_eqt (z := 0) (hs _ (by decide +kernel))
  · exact va_eqt (z := 0) (hs _ (by decide +kernel))
  · exact va_eqt (z := 2) (hs _ (by decide +kernel))
  · exact va_eqt (z := 1) (hs _ (by decide +kernel))
  · exact va_eqt (z := 3) (hs _ (by decide +kernel))
  · exact va_eqt (z := 0) (hs _ (by decide +kernel))
  · exact va_eqt (z := 4) (hs _ (by decide +kernel))
set_option maxRecDepth 20000 in
theorem sa_own {args : Array Value} {s : State} {A : Nat → Prop} (hs : ∀ c ∈ flatC (Jvm.Cond.and given_1 narrow_1), c.before args s = true) (hA : ∀ a : Nat, a < s.heap.size → ¬ A a) : ∃ t : Nat, (Term.static "AsInBertha$Spellings" "OWN" "[I").eval args s none [] s = some (.ref t) ∧ va_T .int t 32 (fun j => .int (ownA j)) A s s.heap := by
  refine va_Tof (tm := (.static "AsInBertha$Spellings" "OWN" "[I")) (f := fun j => .int (ownA j)) (by decide) (hs _ (by decide +kernel)) (va_eqt (z := 32) (hs _ (by decide +kernel))) (fun j hj => ?_) hA
  rcases (show j = 0 ∨ j = 1 ∨ j = 2 ∨ j = 3 ∨ j = 4 ∨ j = 5 ∨ j = 6 ∨ j = 7 ∨ j = 8 ∨ j = 9 ∨ j = 10 ∨ j = 11 ∨ j = 12 ∨ j = 13 ∨ j = 14 ∨ j = 15 ∨ j = 16 ∨ j = 17 ∨ j = 18 ∨ j = 19 ∨ j = 20 ∨ j = 21 ∨ j = 22 ∨ j = 23 ∨ j = 24 ∨ j = 25 ∨ j = 26 ∨ j = 27 ∨ j = 28 ∨ j = 29 ∨ j = 30 ∨ j = 31 by omega) with rfl | rfl | rfl | rfl | rfl | rfl | rfl | rfl | rfl | rfl | rfl | rfl | rfl | rfl | rfl | rfl | rfl | rfl | rfl | rfl | rfl | rfl | rfl | rfl | rfl | rfl | rfl | rfl | rfl | rfl | rfl | rfl
  · exact va_eqt (z := 1) (hs _ (by decide +kernel))
  · exact va_eqt (z := 10) (hs _ (by decide +kernel))
  · exact va_eqt (z := 11) (hs _ (by decide +kernel))
  · exact va_eqt (z := 2) (hs _ (by decide +kernel))
  · exact va_eqt (z := 20) (hs _ (by decide +kernel))
  · exact va_eqt (z := 0) (hs _ (by decide +kernel))
  · exact va_eqt (z := 0) (hs _ (by decide +kernel))
  · exact va_eqt (z := 0) (hs _ (by decide +kernel))
  · exact va_eqt (z := 0) (hs _ (by decide +kernel))
  · exact va_eqt (z := 30) (hs _ (by decide +kernel))
  · exact va_eqt (z := 0) (hs _ (by decide +kernel))
  · exact va_eqt (z := 0) (hs _ (by decide +kernel))
  · exact va_eqt (z := 0) (hs _ (by decide +kernel))
  · exact va_eqt (z := 41) (hs _ (by decide +kernel))
  · exact va_eqt (z := 40) (hs _ (by decide +kernel))
  · exact va_eqt (z := 0) (hs _ (by decide +kernel))
  · exact va_eqt (z := 0) (hs _ (by decide +kernel))
  · exact va_eqt (z := 0) (hs _ (by decide +kernel))
  · exact va_eqt (z := 50) (hs _ (by decide +kernel))
  · exact va_eqt (z := 0) (hs _ (by decide +kernel))
  · exact va_eqt (z := 0) (hs _ (by decide +kernel))
  · exact va_eqt (z := 0) (hs _ (by decide +kernel))
  · exact va_eqt (z := 0) (hs _ (by decide +kernel))
  · exact va_eqt (z := 60) (hs _ (by decide +kernel))
  · exact va_eqt (z := 70) (hs _ (by decide +kernel))
  · exact va_eqt (z := 0) (hs _ (by decide +kernel))
  · exact va_eqt (z := 0) (hs _ (by decide +kernel))
  · exact va_eqt (z := 0) (hs _ (by decide +kernel))
  · exact va_eqt (z := 0) (hs _ (by decide +kernel))
  · exact va_eqt (z := 80) (hs _ (by decide +kernel))
  · exact va_eqt (z := 0) (hs _ (by decide +kernel))
  · exact va_eqt (z := 81) (hs _ (by decide +kernel))
set_option maxRecDepth 20000 in
theorem sa_str {args : Array Value} {s : State} {A : Nat → Prop} (hs : ∀ c ∈ flatC (Jvm.Cond.and given_1 narrow_1), c.before args s = true) (hr : (Cond.stringRef RX7 59 "aneshk").before args s = true) (hA : ∀ a : Nat, a < s.heap.size → ¬ A a) : ∃ adK adV : Nat → Nat, vk_S 1 [6] [[97, 110, 101, 115, 104, 107]] adK adV A s s.heap ∧ vk_R RX7 59 "aneshk" (adK 0) s := by
  obtain ⟨adK, adV, h1, h2⟩ := vk_Sof (args := args) (s := s) (N := 1) (tm := fun _ => Term.string "AsInBertha$Reader" 59) (len := [6]) (byt := [[97, 110, 101, 115, 104, 107]]) (A := A) (fun i hi => by rcases (show i = 0 by omega) with rfl; decide) (fun i hi => hs _ (by decide +kernel)) (fun i hi => hs _ (by decide +kernel)) (fun i hi => hs _ (by decide +kernel)) (fun i hi => by rcases (show i = 0 by omega) with rfl; exact hs _ (by decide +kernel)) (fun i hi j hj => by
    rcases (show i = 0 by omega) with rfl
    have hj : j < 6 := hj
    rcases (show j = 0 ∨ j = 1 ∨ j = 2 ∨ j = 3 ∨ j = 4 ∨ j = 5 by omega) with rfl | rfl | rfl | rfl | rfl | rfl
    · exact hs _ (by decide +kernel)
    · exact hs _ (by decide +kernel)
    · exact hs _ (by decide +kernel)
    · exact hs _ (by decide +kernel)
    · exact hs _ (by decide +kernel)
    · exact hs _ (by decide +kernel)) (fun i j hi hj hij => absurd (show i = j by omega) hij) hA
  exact ⟨adK, adV, h1, vk_R.of hr (h2 0 (by decide))⟩
theorem hts_uw {args : Array Value} {s : State} (hts : ∀ w ∈ lw_tbl, w.before args s = true) : ∀ w ∈ uw, w.before args s = true := fun w hw => hts w (List.mem_filter.mp hw).1
theorem lw_t7 {w : Cond} (h : w ∈ tables_1) : w ∈ lw_tbl := List.mem_append_right _ h
set_option maxRecDepth 20000 in
set_option maxHeartbeats 4000000 in
theorem envStart {p : Program} {s : State} {m : MethodId} {meth : Method} {c : Code} {b L : Nat} {xs : Nat → Int32} (C0 : lw_At p s m meth c b L xs) : ∃ (g : va_G) (ts : ClassId × ClassId × ClassId), EnvX g ts (fun q : Nat => s.heap.size ≤ q) s s.heap ∧ va_AO "AsInBertha$Shelf" s := by
  obtain ⟨hx, hb, hr, hml, hown, hts, hX, hbl, hlocks, hgv⟩ := C0
  have hs := flat_of_before _ hgv
  have hu := hts_uw hts
  have hA : ∀ a : Nat, a < s.heap.size → ¬ (fun q : Nat => s.heap.size ≤ q) a := fun a h => Nat.not_le.mpr h
  obtain ⟨cX0, iX0, kX0⟩ := u_known (C := RX0) (T := TX0) (N := 7) (n := 7) hu inU0 (hu (.instantiable RX0 7) (by decide +kernel))
  obtain ⟨cX1, iX1, kX1⟩ := u_known (C := RX1) (T := TX1) (N := 8) (n := 8) hu inU1 (hu (.instantiable RX1 8) (by decide +kernel))
  obtain ⟨cX2, iX2, kX2⟩ := u_known (C := RX2) (T := TX2) (N := 4) (n := 4) hu inU2 (hu (.instantiable RX2 4) (by decide +kernel))
  obtain ⟨cX3, iX3, kX3⟩ := u_known (C := RX3) (T := TX3) (N := 4) (n := 4) hu inU3 (hu (.instantiable RX3 4) (by decide +kernel))
  obtain ⟨cX4, iX4, kX4⟩ := u_known (C := RX4) (T := TX4) (N := 4) (n := 4) hu inU4 (hu (.instantiable RX4 4) (by decide +kernel))
  obtain ⟨cX5, iX5, kX5⟩ := u_known (C := RX5) (T := TX5) (N := 8) (n := 8) hu inU5 (hu (.instantiable RX5 8) (by decide +kernel))
  obtain ⟨cX6, iX6, kX6⟩ := u_known (C := RX6) (T := TX6) (N := 4) (n := 4) hu inU6 (hu (.instantiable RX6 4) (by decide +kernel))
  obtain ⟨cX7, iX7, kX7⟩ := u_known (C := RX7) (T := TX7) (N := 4) (n := 4) hu inU7 (hu (.instantiable RX7 4) (by decide +kernel))
  obtain ⟨cX8, iX8, kX8⟩ := u_known (C := RX8) (T := TX8) (N := 4) (n := 4) hu inU8 (hu (.instantiable RX8 4) (by decide +kernel))
  obtain ⟨cX9, iX9, kX9⟩ := u_known (C := RX9) (T := TX9) (N := 4) (n := 4) hu inU9 (hu (.instantiable RX9 4) (by decide +kernel))
  obtain ⟨cX10, iX10, kX10⟩ := u_known (C := RX10) (T := TX10) (N := 4) (n := 4) hu inU10 (hu (.instantiable RX10 4) (by decide +kernel))
  obtain ⟨cX11, iX11, kX11⟩ := u_known (C := RX11) (T := TX11) (N := 12) (n := 12) hu inU11 (hu (.instantiable RX11 12) (by decide +kernel))
  obtain ⟨cX12, iX12, kX12⟩ := u_known (C := RX12) (T := TX12) (N := 43) (n := 43) hu inU12 (hu (.instantiable RX12 43) (by decide +kernel))
  obtain ⟨cI, kI, pI, fI, gI_, hI⟩ := Cond.arrayClass_spec (hu (.arrayClass .int) q_arrI)
  obtain ⟨cJ, kJ, pJ, fJ, gJ, hJ⟩ := Cond.arrayClass_spec (hu (.arrayClass .long) q_arrL)
  have hO : va_AO "AsInBertha$Shelf" s := va_AO.of (hts (.arrayOver (.object "AsInBertha$Shelf")) (by decide +kernel))
  obtain ⟨pS, cS, kS, s1, s2, s3, s4, s5⟩ := Cond.arrayOver_spec hO
  obtain ⟨t1, e1, T1⟩ := sa_hund hs hA
  obtain ⟨t2, e2, T2⟩ := sa_above hs hA
  obtain ⟨t3, e3, T3⟩ := sa_own hs hA
  obtain ⟨adK, adV, hS1, hS2⟩ := sa_str hs (hts (.stringRef RX7 59 "aneshk") (by decide +kernel)) hA
  refine ⟨(fun k => if k = 0 then cX0 else if k = 1 then cX1 else if k = 2 then cX2 else if k = 3 then cX3 else if k = 4 then cX4 else if k = 5 then cX5 else if k = 6 then cX6 else if k = 7 then cX7 else if k = 8 then cX8 else if k = 9 then cX9 else if k = 10 then cX10 else if k = 11 then cX11 else cX12, fun k => if k = 0 then iX0 else if k = 1 then iX1 else if k = 2 then iX2 else if k = 3 then iX3 else if k = 4 then iX4 else if k = 5 then iX5 else if k = 6 then iX6 else if k = 7 then iX7 else if k = 8 then iX8 else if k = 9 then iX9 else if k = 10 then iX10 else if k = 11 then iX11 else iX12), (cI, cJ, cS), ⟨⟨?_, ?_⟩, ?_, ⟨t1, va_Zref (hts (.laysStatic "AsInBertha" "HUNDREDS" "[J") (by decide +kernel)) (hu (.initialized "AsInBertha") (by decide +kernel)) e1 hA, T1⟩, ⟨t2, va_Zref (hts (.laysStatic "AsInBertha$Spellings" "ABOVE" "[I") (by decide +kernel)) (hu (.initialized "AsInBertha$Spellings") (by decide +kernel)) e2 hA, T2⟩, ⟨t3, va_Zref (hts (.laysStatic "AsInBertha$Spellings" "OWN" "[I") (by decide +kernel)) (hu (.initialized "AsInBertha$Spellings") (by decide +kernel)) e3 hA, T3⟩, va_Zof (hts (.laysStatic "java/lang/String" "COMPACT_STRINGS" "Z") (by decide +kernel)) (hu (.initialized "java/lang/String") (by decide +kernel)) (va_eqt (hs _ (by decide +kernel))) hA, adK, adV, hS1, hS2⟩, hO⟩
  · intro k q hq
    match k, hq with
    | 0, hq => cases hq; exact kX0
    | 1, hq => cases hq; exact kX1
    | 2, hq => cases hq; exact kX2
    | 3, hq => cases hq; exact kX3
    | 4, hq => cases hq; exact kX4
    | 5, hq => cases hq; exact kX5
    | 6, hq => cases hq; exact kX6
    | 7, hq => cases hq; exact kX7
    | 8, hq => cases hq; exact kX8
    | 9, hq => cases hq; exact kX9
    | 10, hq => cases hq; exact kX10
    | 11, hq => cases hq; exact kX11
    | 12, hq => cases hq; exact kX12
    | k + 13, hq => simp [classes] at hq
  · intro k q hq
    match k, hq with
    | 0, hq => cases hq; exact ⟨fun n z => ⟨fun k h => (by cases h), kI, gI_, pI, hI⟩, fI⟩
    | 1, hq => cases hq; exact ⟨fun n z => ⟨fun k h => (by cases h), kJ, gJ, pJ, hJ⟩, fJ⟩
    | 2, hq => cases hq; exact ⟨fun n z => ⟨fun k h => (by cases h), kS, s3, pS, s4⟩, kS, pS, s3, s4, s1, s5⟩
    | k + 3, hq => simp at hq
  · intro w hw
    have h1 : ∀ w ∈ nestW, w ∈ lw_tbl ∧ w.onTables = true := by decide +kernel
    exact va_Nw.of (h1 w hw).2 (hts w (h1 w hw).1)
