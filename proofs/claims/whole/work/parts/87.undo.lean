/-! the model's changes -/
def s3 (τ : St) (A B C : Nat → Int32) : St := sA (sA (sA τ 601 0 A) 602 0 B) 603 0 C
theorem s3_s3 (τ : St) (a b c A B C : Nat → Int32) : s3 (s3 τ a b c) A B C = s3 τ A B C := by
  refine sA_ext rfl rfl (fun f o => ?_) rfl
  show (if f = 603 ∧ o = 0 then C else if f = 602 ∧ o = 0 then B else if f = 601 ∧ o = 0 then A else if f = 603 ∧ o = 0 then c else if f = 602 ∧ o = 0 then b else if f = 601 ∧ o = 0 then a else τ.2.2.1 f o) = (if f = 603 ∧ o = 0 then C else if f = 602 ∧ o = 0 then B else if f = 601 ∧ o = 0 then A else τ.2.2.1 f o)
  by_cases h1 : f = 603 ∧ o = 0
  · simp only [if_pos h1]
  · by_cases h2 : f = 602 ∧ o = 0
    · simp only [if_neg h1, if_pos h2]
    · by_cases h3 : f = 601 ∧ o = 0
      · simp only [if_neg h1, if_neg h2, if_pos h3]
      · simp only [if_neg h1, if_neg h2, if_neg h3]
theorem s3_self (τ : St) : s3 τ (τ.2.2.1 601 0) (τ.2.2.1 602 0) (τ.2.2.1 603 0) = τ := by
  refine sA_ext rfl rfl (fun f o => ?_) rfl
  show (if f = 603 ∧ o = 0 then τ.2.2.1 603 0 else if f = 602 ∧ o = 0 then τ.2.2.1 602 0 else if f = 601 ∧ o = 0 then τ.2.2.1 601 0 else τ.2.2.1 f o) = τ.2.2.1 f o
  by_cases h1 : f = 603 ∧ o = 0
  · rw [if_pos h1, h1.1, h1.2]
  · rw [if_neg h1]
    by_cases h2 : f = 602 ∧ o = 0
    · rw [if_pos h2, h2.1, h2.2]
    · rw [if_neg h2]
      by_cases h3 : f = 601 ∧ o = 0
      · rw [if_pos h3, h3.1, h3.2]
      · rw [if_neg h3]
theorem shift_loop {x1 x2 x3 : Int32} : ∀ m i f τ, i + m = 40 → 1 ≤ i → m < f → ∃ A B C, f_X12_becomes_b26 f τ x1 x2 x3 (nI i) = f_X12_becomes_b97 (sI (s3 τ A B C) 605 0 (τ.1 605 0 - 1)) x1 x2 x3 ∧ (∀ j, i ≤ j + 1 → j < 39 → A j = τ.2.2.1 601 0 (j + 1) ∧ B j = τ.2.2.1 602 0 (j + 1) ∧ C j = τ.2.2.1 603 0 (j + 1)) ∧ ∀ j, j + 1 < i → A j = τ.2.2.1 601 0 j ∧ B j = τ.2.2.1 602 0 j ∧ C j = τ.2.2.1 603 0 j := by
  intro m
  induction m with
  | zero =>
    intro i f τ hi h1 hf
    obtain ⟨f, rfl⟩ : ∃ x, f = x + 1 := ⟨f - 1, by omega⟩
    rw [f_X12_becomes_b26, if_pos (show (40 : Int32) ≤ nI i from nI_le (a := 40) (by omega) (by omega))]
    exact ⟨τ.2.2.1 601 0, τ.2.2.1 602 0, τ.2.2.1 603 0, by rw [s3_self], fun j h2 h3 => absurd h3 (by omega), fun j _ => ⟨rfl, rfl, rfl⟩⟩
  | succ m ih =>
    intro i f τ hi h1 hf
    obtain ⟨f, rfl⟩ : ∃ x, f = x + 1 := ⟨f - 1, by omega⟩
    have e1 : nI i - (1 : Int32) = nI (i - 1) := pk_sub (b := 1) h1
    rw [f_X12_becomes_b26, if_neg (show ¬ (40 : Int32) ≤ nI i from nI_ge (b := 40) (by omega) (by omega)), e1]
    simp only [chk_in (show i < 40 by omega) (show 40 ≤ 2000000000 by omega), chk_in (show i - 1 < 40 by omega) (show 40 ≤ 2000000000 by omega), bnd_e, nI_p1]
    simp only [nI_clamp (show i < 2 ^ 31 by omega), nI_clamp (show i - 1 < 2 ^ 31 by omega)]
    obtain ⟨A, B, C, q1, q2, q3⟩ := ih (i + 1) f (s3 τ (upd (τ.2.2.1 601 0) (i - 1) (τ.2.2.1 601 0 i)) (upd (τ.2.2.1 602 0) (i - 1) (τ.2.2.1 602 0 i)) (upd (τ.2.2.1 603 0) (i - 1) (τ.2.2.1 603 0 i))) (by omega) (by omega) (by omega)
    rw [s3_s3] at q1
    refine ⟨A, B, C, q1, fun j h2 h3 => ?_, fun j hj => ?_⟩
    · by_cases e : j + 1 = i
      · have h5 := q3 j (by omega)
        have ej : i - 1 = j := by omega
        refine ⟨h5.1.trans ?_, h5.2.1.trans ?_, h5.2.2.trans ?_⟩
        · show upd (τ.2.2.1 601 0) (i - 1) (τ.2.2.1 601 0 i) j = _
          rw [ej, pk_us, e]
        · show upd (τ.2.2.1 602 0) (i - 1) (τ.2.2.1 602 0 i) j = _
          rw [ej, pk_us, e]
        · show upd (τ.2.2.1 603 0) (i - 1) (τ.2.2.1 603 0 i) j = _
          rw [ej, pk_us, e]
      · have h5 := q2 j (by omega) h3
        refine ⟨h5.1.trans ?_, h5.2.1.trans ?_, h5.2.2.trans ?_⟩
        · exact pk_un (by omega)
        · exact pk_un (by omega)
        · exact pk_un (by omega)
    · have h5 := q3 j (by omega)
      refine ⟨h5.1.trans ?_, h5.2.1.trans ?_, h5.2.2.trans ?_⟩
      · exact pk_un (by omega)
      · exact pk_un (by omega)
      · exact pk_un (by omega)
/-- b97: a change is kept, its number becomes another -/
theorem keep_M {α : Ab} {τ0 τ : St} (h : AbsM α τ0) (h1 : ∀ f o, f ≠ 604 → f ≠ 605 → τ.1 f o = τ0.1 f o) (h2 : ∀ f o, f ≠ 601 → f ≠ 602 → f ≠ 603 → τ.2.2.1 f o = τ0.2.2.1 f o) (h3 : τ.2.2.2 = τ0.2.2.2) {l : List (Nat × Nat × Nat × Nat)} (hl : l.length < 40) (e5 : τ.1 605 0 = nI l.length) (he : ∀ i, i < l.length → τ.2.2.1 601 0 i = nI (whr (chg l i).1 (chg l i).2.1) ∧ τ.2.2.1 602 0 i = nI (chg l i).2.2.1 ∧ τ.2.2.1 603 0 i = nI (chg l i).2.2.2) (a b c d : Nat) (hw : whr a b < 179) : ∃ τ1, f_X12_becomes_b97 τ (nI (whr a b)) (nI d) (nI c) = some (nI c, sA τ1 600 0 (upd (τ1.2.2.1 600 0) (whr a b) (nI d))) ∧ AbsM (uCH α (l ++ [(a, b, c, d)]) (l.length + 1)) τ1 := by
  have e5' : ∀ A B : Nat → Int32, (sA (sA τ 601 0 A) 602 0 B).1 605 0 = nI l.length := fun A B => e5
  unfold f_X12_becomes_b97
  have hc : ¬ (τ.1 605 0 < 0 ∨ 40 ≤ (τ.1 605 0).toNatClampNeg) := by rw [e5]; exact in_nI hl (by omega)
  rw [chk_e hc, bnd_e, chk_e (show ¬ ((sA τ 601 0 (upd (τ.2.2.1 601 0) (τ.1 605 0).toNatClampNeg (nI (whr a b)))).1 605 0 < 0 ∨ 40 ≤ ((sA τ 601 0 (upd (τ.2.2.1 601 0) (τ.1 605 0).toNatClampNeg (nI (whr a b)))).1 605 0).toNatClampNeg) from hc), bnd_e, chk_e (show ¬ ((sA (sA τ 601 0 (upd (τ.2.2.1 601 0) (τ.1 605 0).toNatClampNeg (nI (whr a b)))) 602 0 (upd ((sA τ 601 0 (upd (τ.2.2.1 601 0) (τ.1 605 0).toNatClampNeg (nI (whr a b)))).2.2.1 602 0) ((sA τ 601 0 (upd (τ.2.2.1 601 0) (τ.1 605 0).toNatClampNeg (nI (whr a b)))).1 605 0).toNatClampNeg (nI c))).1 605 0 < 0 ∨ 40 ≤ ((sA (sA τ 601 0 (upd (τ.2.2.1 601 0) (τ.1 605 0).toNatClampNeg (nI (whr a b)))) 602 0 (upd ((sA τ 601 0 (upd (τ.2.2.1 601 0) (τ.1 605 0).toNatClampNeg (nI (whr a b)))).2.2.1 602 0) ((sA τ 601 0 (upd (τ.2.2.1 601 0) (τ.1 605 0).toNatClampNeg (nI (whr a b)))).1 605 0).toNatClampNeg (nI c))).1 605 0).toNatClampNeg) from hc), bnd_e, bnd_e, chk_in hw (by omega), nI_clamp (show whr a b < 2 ^ 31 by omega), bnd_e]
  refine ⟨_, rfl, absM_CH h (fun f o q1 q2 => ?_) (fun f o q1 q2 q3 => ?_) h3 ⟨?_, ?_, fun i hi => ?_⟩⟩
  · exact (if_neg (fun z => q1 z.1)).trans ((if_neg (fun z => q2 z.1)).trans (h1 f o q1 q2))
  · exact (if_neg (fun z => q3 z.1)).trans ((if_neg (fun z => q2 z.1)).trans ((if_neg (fun z => q1 z.1)).trans (h2 f o q1 q2 q3)))
  · show τ.1 605 0 + 1 = nI (l.length + 1)
    rw [e5, nI_p1]
  · show τ.1 605 0 + 1 = nI (l ++ [(a, b, c, d)]).length
    rw [e5, nI_p1, len_push]
  · rw [len_push] at hi
    show upd (τ.2.2.1 601 0) (τ.1 605 0).toNatClampNeg (nI (whr a b)) i = _ ∧ upd (τ.2.2.1 602 0) (τ.1 605 0).toNatClampNeg (nI c) i = _ ∧ upd (τ.2.2.1 603 0) (τ.1 605 0).toNatClampNeg (nI d) i = _
    rw [e5, nI_clamp (by omega)]
    by_cases e : i = l.length
    · subst e
      rw [pk_us, pk_us, pk_us, chg_r]
      exact ⟨rfl, rfl, rfl⟩
    · rw [pk_un e, pk_un e, pk_un e, chg_l (by omega)]
      exact he i (by omega)
theorem becomes_M {k : Nat} {α : Ab} {τ : St} (ho : OkA k α) (h : AbsM α τ) {num w v : Nat} (hw : OkW (aN α).length num w) (hv : v < 100) (ht : tld α num w < 100) : (v = tld α num w → f_X12_becomes τ (nI (whr num w)) (nI v) = some (nI (tld α num w), τ)) ∧ (v ≠ tld α num w → ∃ τ1, f_X12_becomes τ (nI (whr num w)) (nI v) = some (nI (tld α num w), sA τ1 600 0 (upd (τ1.2.2.1 600 0) (whr num w) (nI v))) ∧ AbsM (uCH α (pre (aCH α) (aDN α) ++ [(num, w, tld α num w, v)]) ((pre (aCH α) (aDN α)).length + 1)) τ1) := by
  have hl := (oNm ho).1
  have hwl := whr_lt hw hl
  obtain ⟨c1, c2, _⟩ := ho.2.2.2.1
  have hp := pre_len c1 c2
  obtain ⟨g1, g2, g3⟩ := mCh h
  unfold f_X12_becomes
  rw [chk_in hwl (by omega), nI_clamp (by omega), may_M ho h hw, bnd_e]
  constructor
  · intro e
    rw [if_pos (congrArg nI e.symm)]
  · intro e
    rw [if_neg (nI_lit_ne (fun z => e z.symm) (by omega) (by omega))]
    by_cases e4 : aDN α = 40
    · rw [if_pos e4] at hp
      have e40 : τ.1 605 0 = 40 := by rw [g1, e4]; rfl
      rw [if_pos e40]
      obtain ⟨A, B, C, q1, q2, q3⟩ := shift_loop (x1 := nI (whr num w)) (x2 := nI v) (x3 := nI (tld α num w)) 39 1 256 τ (by omega) (by omega) (by omega)
      have q1' : f_X12_becomes_b26 256 τ (nI (whr num w)) (nI v) (nI (tld α num w)) (1 : Int32) = _ := q1
      rw [q1']
      refine keep_M (τ := sI (s3 τ A B C) 605 0 (τ.1 605 0 - 1)) h (fun f o y1 y2 => if_neg (fun z => y2 z.1)) (fun f o y1 y2 y3 => (if_neg (fun z => y3 z.1)).trans ((if_neg (fun z => y2 z.1)).trans (if_neg (fun z => y1 z.1)))) rfl (l := pre (aCH α) (aDN α)) (by omega) ?_ (fun i hi => ?_) num w (tld α num w) v hwl
      · show τ.1 605 0 - 1 = nI (pre (aCH α) (aDN α)).length
        rw [e40, hp]
        rfl
      · have h5 := q2 i (by omega) (by omega)
        have h6 := g3 (i + 1) (by omega)
        have e6 : chg (pre (aCH α) (aDN α)) i = chg (aCH α) (i + 1) := by
          unfold pre
          rw [if_pos e4, chg_drop]
        rw [e6]
        exact ⟨h5.1.trans h6.1, h5.2.1.trans h6.2.1, h5.2.2.trans h6.2.2⟩
    · rw [if_neg e4] at hp
      rw [if_neg (show ¬ τ.1 605 0 = 40 by rw [g1]; exact nI_lit_ne (m := 40) e4 (by omega) (by omega))]
      refine keep_M h (fun _ _ _ _ => rfl) (fun _ _ _ _ _ => rfl) rfl (l := pre (aCH α) (aDN α)) (by omega) (by rw [g1, hp]) (fun i hi => ?_) num w (tld α num w) v hwl
      have e6 : chg (pre (aCH α) (aDN α)) i = chg (aCH α) i := by
        unfold pre
        rw [if_neg e4, chg_take (by omega)]
      rw [e6]
      exact g3 i (by omega)
/-! 1 mend -/
theorem tld_b {k : Nat} {α : Ab} (ho : OkA k α) {num w : Nat} (hw : OkW (aN α).length num w) : OkV w (tld α num w) := by
  have hN := oNm ho
  have hL := oLi ho
  rcases hw with h | h | h | h | h
  · obtain ⟨rfl, _⟩ := h
    exact ⟨fun q => absurd q (by decide), fun q => absurd q (by decide), fun _ => hN.2.2.2 num⟩
  · obtain ⟨rfl, _⟩ := h
    exact ⟨fun q => absurd q (by decide), fun q => absurd q (by decide), fun _ => hL.1 _ _⟩
  · obtain ⟨rfl, _⟩ := h
    exact ⟨fun _ => (hL.2.2.2.1 num).1, fun q => absurd q (by decide), fun _ => (hL.2.2.2.1 num).2⟩
  · obtain ⟨rfl, _⟩ := h
    exact ⟨fun q => absurd q (by decide), fun _ => hL.2.2.2.2.1 num, fun q => absurd rfl q⟩
  · obtain ⟨rfl, _⟩ := h
    exact ⟨fun q => absurd q (by decide), fun q => absurd q (by decide), fun _ => hL.2.2.2.2.2⟩
theorem okV_100 {w v : Nat} (h : OkV w v) : v < 100 := by
  by_cases e : w = 3
  · have := h.2.1 e; omega
  · have := h.2.2 e; omega
theorem okC1_mk {nn num w a b : Nat} (hw : OkW nn num w) (ha : OkV w a) (hb : OkV w b) : OkC1 nn (num, w, a, b) := by
  rcases hw with h | h | h | h | h
  · obtain ⟨rfl, h2⟩ := h
    exact Or.inl ⟨rfl, h2, ha.2.2 (by decide), hb.2.2 (by decide)⟩
  · obtain ⟨rfl, h2, h3, h4⟩ := h
    exact Or.inr (Or.inl ⟨rfl, h2, h3, h4, ha.2.2 (by decide), hb.2.2 (by decide)⟩)
  · obtain ⟨rfl, h2⟩ := h
    exact Or.inr (Or.inr (Or.inl ⟨rfl, h2, ha.1 rfl, ha.2.2 (by decide), hb.1 rfl, hb.2.2 (by decide)⟩))
  · obtain ⟨rfl, h2⟩ := h
    exact Or.inr (Or.inr (Or.inr (Or.inl ⟨rfl, h2, ha.2.1 rfl, hb.2.1 rfl⟩)))
  · obtain ⟨rfl, h2⟩ := h
    exact Or.inr (Or.inr (Or.inr (Or.inr ⟨rfl, h2, ha.2.2 (by decide), hb.2.2 (by decide)⟩)))
theorem okC1_use {nn : Nat} {c : Nat × Nat × Nat × Nat} (h : OkC1 nn c) : OkW nn c.1 c.2.1 ∧ OkV c.2.1 c.2.2.1 ∧ OkV c.2.1 c.2.2.2 := by
  rcases h with h | h | h | h | h
  · obtain ⟨e, h2, h3, h4⟩ := h
    exact ⟨Or.inl ⟨e, h2⟩, ⟨fun q => by omega, fun q => by omega, fun _ => h3⟩, ⟨fun q => by omega, fun q => by omega, fun _ => h4⟩⟩
  · obtain ⟨e, h2, h3, h4, h5, h6⟩ := h
    exact ⟨Or.inr (Or.inl ⟨e, h2, h3, h4⟩), ⟨fun q => by omega, fun q => by omega, fun _ => h5⟩, ⟨fun q => by omega, fun q => by omega, fun _ => h6⟩⟩
  · obtain ⟨e, h2, h3, h4, h5, h6⟩ := h
    exact ⟨Or.inr (Or.inr (Or.inl ⟨e, h2⟩)), ⟨fun _ => h3, fun q => by omega, fun _ => h4⟩, ⟨fun _ => h5, fun q => by omega, fun _ => h6⟩⟩
  · obtain ⟨e, h2, h3, h4⟩ := h
    exact ⟨Or.inr (Or.inr (Or.inr (Or.inl ⟨e, h2⟩))), ⟨fun q => by omega, fun _ => h3, fun q => absurd e q⟩, ⟨fun q => by omega, fun _ => h4, fun q => absurd e q⟩⟩
  · obtain ⟨e, h2, h3, h4⟩ := h
    exact ⟨Or.inr (Or.inr (Or.inr (Or.inr ⟨e, h2⟩))), ⟨fun q => by omega, fun q => by omega, fun _ => h3⟩, ⟨fun q => by omega, fun q => by omega, fun _ => h4⟩⟩
theorem pre_mem {CH : List (Nat × Nat × Nat × Nat)} {DN : Nat} {c : Nat × Nat × Nat × Nat} (h : c ∈ pre CH DN) : c ∈ CH := by
  unfold pre at h
  by_cases e : DN = 40
  · rw [if_pos e] at h; exact List.mem_of_mem_drop h
  · rw [if_neg e] at h; exact List.mem_of_mem_take h
theorem okC_push {k : Nat} {α : Ab} (ho : OkA k α) {num w a b : Nat} (hw : OkW (aN α).length num w) (ha : OkV w a) (hb : OkV w b) : OkC (aN α).length (pre (aCH α) (aDN α) ++ [(num, w, a, b)]) ((pre (aCH α) (aDN α)).length + 1) := by
  obtain ⟨c1, c2, c3⟩ := ho.2.2.2.1
  have hp := pre_len c1 c2
  refine ⟨?_, ?_, fun c hc => ?_⟩
  · rw [len_push, hp]
    split <;> omega
  · rw [len_push]
    exact Nat.le_refl _
  · rcases List.mem_append.mp hc with h | h
    · exact c3 c (pre_mem h)
    · have e : c = (num, w, a, b) := List.mem_singleton.mp h
      rw [e]
      exact okC1_mk hw ha hb
theorem within_C (w v : Int32) : f_X11_within w v = some (tf ((if w = 2 then (1 : Int32) else 0) ≤ v ∧ v ≤ (if w = 3 then (12 : Int32) else 9))) := by
  have h : ∀ lo hi : Int32, f_X11_within_b23 v lo hi = some (tf (lo ≤ v ∧ v ≤ hi)) := by
    intro lo hi
    unfold f_X11_within_b23
    by_cases h1 : v < lo
    · rw [if_pos h1, tf_f (fun q => absurd q.1 (Int32.not_le.mpr h1))]
    · rw [if_neg h1]
      by_cases h2 : hi < v
      · rw [if_pos h2, tf_f (fun q => absurd q.2 (Int32.not_le.mpr h2))]
      · rw [if_neg h2, tf_t ⟨Int32.not_lt.mp h1, Int32.not_lt.mp h2⟩]
  have h2 : f_X11_within0 w v = some (tf ((if w = 2 then (1 : Int32) else 0) ≤ v ∧ v ≤ (if w = 3 then (12 : Int32) else 9))) := by
    unfold f_X11_within0 f_X11_within_b10
    by_cases e2 : w = 2
    · have e3 : ¬ w = 3 := by rw [e2]; decide
      simp only [if_pos e2, if_neg e3, h]
    · by_cases e3 : w = 3
      · simp only [if_neg e2, if_pos e3, h]
      · simp only [if_neg e2, if_neg e3, h]
  unfold f_X11_within
  rw [h2, chkB1_tf]
theorem mendfin_M (τ : St) (w v x : Int32) : (if w = (2 : Int32) then (f_X12_mend_b25 τ w v x (1 : Int64) v.toInt64) else (f_X12_mend_b25 τ w v x (0 : Int64) v.toInt64)) = (if (if w = 2 then (1 : Int32) else 0) ≤ v ∧ v ≤ (if w = 3 then (12 : Int32) else 9) then bnd2 (f_X12_becomes τ x v) (fun r11 σ12 => some (r11, σ12)) else some (-1, τ)) := by
  have h : ∀ (lo hi : Int32), f_X12_mend_b39 τ v x hi.toInt64 lo.toInt64 v.toInt64 = (if lo ≤ v ∧ v ≤ hi then bnd2 (f_X12_becomes τ x v) (fun r11 σ12 => some (r11, σ12)) else some (-1, τ)) := by
    intro lo hi
    unfold f_X12_mend_b39
    rw [w32, bnd1_e]
    by_cases e : lo ≤ v ∧ v ≤ hi
    · rw [tf_t e, if_neg one_n0, if_pos e]
    · rw [tf_f e, if_pos rfl, if_neg e]
  unfold f_X12_mend_b25
  have e12 : (12 : Int64) = (12 : Int32).toInt64 := by decide
  have e9 : (9 : Int64) = (9 : Int32).toInt64 := by decide
  have e1 : (1 : Int64) = (1 : Int32).toInt64 := by decide
  have e0 : (0 : Int64) = (0 : Int32).toInt64 := by decide
  rw [e12, e9, e1, e0]
  by_cases q2 : w = 2
  · have q3 : ¬ w = 3 := by rw [q2]; decide
    simp only [if_pos q2, if_neg q3, h]
  · by_cases q3 : w = 3
    · simp only [if_neg q2, if_pos q3, h]
    · simp only [if_neg q2, if_neg q3, h]
theorem sp1 (k : Nat) : Step_1 (Rel k) (Rel (k + 1)) := by
  intro σ τ p q r hr
  obtain ⟨α, ho, hc, hm⟩ := hr
  have hR : Rel (k + 1) σ τ := ⟨α, okA_mono ho, hc, hm⟩
  have hl := (oNm ho).1
  unfold f_X11_mend f_X12_mend
  rcases place_both ho hc hm p q with ⟨num, w, hw, ep, eq, h1, h2⟩ | ⟨h1, h2⟩
  · rw [h1, h2, bnd2_e, bnd2_e, if_neg one_n0, if_neg (whr_n0 hw hl), within_C, bnd1_e, mendfin_M]
    have hwb := okW_b hw hl
    by_cases hv : (if q = 2 then (1 : Int32) else 0) ≤ r ∧ r ≤ (if q = 3 then (12 : Int32) else 9)
    · rw [tf_t hv, if_neg one_n0, if_pos hv]
      have hv2 : ∃ v, r = nI v ∧ OkV w v := by
        have h0 : 0 ≤ r ∧ r ≤ 12 := by
          refine ⟨?_, ?_⟩
          · by_cases e : q = 2
            · rw [if_pos e] at hv
              have := hv.1
              rw [fa_le] at this ⊢
              have e1 : (1 : Int32).toInt = 1 := by decide
              have e0 : (0 : Int32).toInt = 0 := by decide
              rw [e1] at this
              rw [e0]
              omega
            · rw [if_neg e] at hv; exact hv.1
          · by_cases e : q = 3
            · rw [if_pos e] at hv; exact hv.2
            · rw [if_neg e] at hv
              have := hv.2
              rw [fa_le] at this ⊢
              have e1 : (12 : Int32).toInt = 12 := by decide
              have e0 : (9 : Int32).toInt = 9 := by decide
              rw [e0] at this
              rw [e1]
              omega
        obtain ⟨v, hv12, ev⟩ := rng_of (n := 12) (by omega) h0
        refine ⟨v, ev, fun z => ?_, fun _ => hv12, fun z => ?_⟩
        · have e : q = 2 := by rw [eq, z]; rfl
          rw [if_pos e, ev] at hv
          exact (nI_leI (a := 1) (by omega) (by omega)).mp hv.1
        · have e : ¬ q = 3 := by rw [eq]; exact nI_lit_ne (m := 3) z (by omega) (by omega)
          rw [if_neg e, ev] at hv
          exact (nI_leI (b := 9) (by omega) (by omega)).mp hv.2
      obtain ⟨v, ev, hV⟩ := hv2
      have hT := tld_b ho hw
      subst ep
      subst eq
      subst ev
      rw [told_C ho hc (Or.inl hw), bnd2_e]
      obtain ⟨b1, b2⟩ := becomes_M ho hm hw (okV_100 hV) (okV_100 hT)
      by_cases e : v = tld α num w
      · rw [if_pos (congrArg nI e.symm), b1 e, bnd2_e]
        exact ⟨_, _, _, rfl, rfl, hR⟩
      · have hne := okV_100 hV
        have hne2 := okV_100 hT
        rw [if_neg (nI_lit_ne (fun z => e z.symm) (by omega) (by omega))]
        obtain ⟨τ1, t1, t2⟩ := b2 e
        obtain ⟨σ1, s1, s2, _⟩ := tell_C ho hc (v := v) hw
        have ho1 := okA_set ho hw hV
        obtain ⟨σ2, u1, u2⟩ := enter_C ho1 s2 num w (tld α num w) v
        rw [s1, bnd1_e, u1, bnd1_e, t1, bnd2_e]
        have hoC : OkA k (uCH α (pre (aCH α) (aDN α) ++ [(num, w, tld α num w, v)]) ((pre (aCH α) (aDN α)).length + 1)) := okA_CH ho (okC_push ho hw hT hV)
        have hmF := absM_set (v := v) hoC t2 hw
        have hoF : OkA k (setV (uCH α (pre (aCH α) (aDN α) ++ [(num, w, tld α num w, v)]) ((pre (aCH α) (aDN α)).length + 1)) num w v) := okA_set hoC hw hV
        have eF : uCH (setV α num w v) (pre (aCH (setV α num w v)) (aDN (setV α num w v)) ++ [(num, w, tld α num w, v)]) ((pre (aCH (setV α num w v)) (aDN (setV α num w v))).length + 1) = setV (uCH α (pre (aCH α) (aDN α) ++ [(num, w, tld α num w, v)]) ((pre (aCH α) (aDN α)).length + 1)) num w v := by
          rcases hw with h | h | h | h | h
          · obtain ⟨rfl, _⟩ := h; rfl
          · obtain ⟨rfl, _⟩ := h; rfl
          · obtain ⟨rfl, _⟩ := h; rfl
          · obtain ⟨rfl, _⟩ := h; rfl
          · obtain ⟨rfl, _⟩ := h; rfl
        rw [eF] at u2
        exact ⟨_, _, _, rfl, rfl, _, okA_mono hoF, u2, hmF⟩
    · rw [tf_f hv, if_pos rfl, if_neg hv]
      exact ⟨_, _, _, rfl, rfl, hR⟩
  · rw [h1, h2]
    exact ⟨_, _, _, rfl, rfl, hR⟩
