/-! 32 undo, 33 redo -/
theorem chg_mem {CH : List (Nat × Nat × Nat × Nat)} {i : Nat} (h : i < CH.length) : chg CH i ∈ CH := by
  unfold chg
  rw [List.getD_eq_getElem?_getD, List.getElem?_eq_getElem h]
  exact List.getElem_mem h
theorem set_uCH {α : Ab} {nn num w v : Nat} {l : List (Nat × Nat × Nat × Nat)} {d : Nat} (hw : OkW nn num w) : uCH (setV α num w v) l d = setV (uCH α l d) num w v := by
  rcases hw with h | h | h | h | h
  · obtain ⟨rfl, _⟩ := h; rfl
  · obtain ⟨rfl, _⟩ := h; rfl
  · obtain ⟨rfl, _⟩ := h; rfl
  · obtain ⟨rfl, _⟩ := h; rfl
  · obtain ⟨rfl, _⟩ := h; rfl
theorem sp32 (k : Nat) : Step_32 (Rel k) (Rel (k + 1)) := by
  intro σ τ hr
  obtain ⟨α, ho, hc, hm⟩ := hr
  have hR : Rel (k + 1) σ τ := ⟨α, okA_mono ho, hc, hm⟩
  have hl := (oNm ho).1
  obtain ⟨a1, a2, a3⟩ := ho.2.2.2.1
  obtain ⟨g1, g2, f, hf, g3, g4⟩ := cCh hc
  obtain ⟨m1, m2, m3⟩ := mCh hm
  unfold f_X11_undo f_X12_undo f_X0_stepBack
  by_cases e0 : aDN α = 0
  · rw [if_pos (show σ.1 4 0 = 0 by rw [g1, e0]; rfl), if_pos (show τ.1 605 0 = 0 by rw [m1, e0]; rfl), bnd2_e, if_neg neg1_nle]
    exact ⟨_, _, _, rfl, rfl, hR⟩
  · have z1 : ¬ σ.1 4 0 = 0 := by rw [g1]; exact nI_lit_ne (m := 0) e0 (by omega) (by omega)
    have z2 : ¬ τ.1 605 0 = 0 := by rw [m1]; exact nI_lit_ne (m := 0) e0 (by omega) (by omega)
    obtain ⟨x1, x2, x3⟩ := okC1_use (a3 _ (chg_mem (show aDN α - 1 < (aCH α).length by omega)))
    have hlt := whr_lt x1 hl
    have e4 : (sI (sI σ 4 0 (σ.1 4 0 - 1)) 5 0 ((sI σ 4 0 (σ.1 4 0 - 1)).1 5 0 + 1)).1 4 0 = nI (aDN α - 1) := by
      show σ.1 4 0 - 1 = _
      rw [g1]
      exact pk_sub (b := 1) (by omega)
    have e5 : (sI (sI σ 4 0 (σ.1 4 0 - 1)) 5 0 ((sI σ 4 0 (σ.1 4 0 - 1)).1 5 0 + 1)).1 5 0 = nI ((aCH α).length - (aDN α - 1)) := by
      show σ.1 5 0 + 1 = _
      rw [g2, nI_p1, show (aCH α).length - aDN α + 1 = (aCH α).length - (aDN α - 1) by omega]
    have e6 : (sI (sI σ 4 0 (σ.1 4 0 - 1)) 5 0 ((sI σ 4 0 (σ.1 4 0 - 1)).1 5 0 + 1)).1 6 0 = nI f := g3
    have hc1 : AbsC (uCH α (aCH α) (aDN α - 1)) (sI (sI σ 4 0 (σ.1 4 0 - 1)) 5 0 ((sI σ 4 0 (σ.1 4 0 - 1)).1 5 0 + 1)) := absC_CH hc (fun x o hx => (if_neg (fun z => by omega)).trans (if_neg (fun z => by omega))) (fun _ _ _ => rfl) rfl ⟨e4, e5, f, hf, e6, g4⟩
    have ho1 : OkA k (uCH α (aCH α) (aDN α - 1)) := okA_CH ho ⟨a1, by omega, a3⟩
    obtain ⟨σ3, s1, s2, s3, _⟩ := tell_C ho1 hc1 (v := (chg (aCH α) (aDN α - 1)).2.2.1) x1
    have hmod : (f + (aDN α - 1)) % 40 < 40 := Nat.mod_lt _ (by decide)
    obtain ⟨y1, y2, y3, _⟩ := g4 (aDN α - 1) (by omega)
    rw [if_neg z1, bnd_e, e4, e6, nI_add, mod40 _ (by omega), bnd2_e, if_pos (nI_0le (by omega)), chk_in hmod (by omega), chk_in hmod (by omega), chk_in hmod (by omega), nI_clamp (by omega)]
    have t1 : (sI (sI σ 4 0 (σ.1 4 0 - 1)) 5 0 ((sI σ 4 0 (σ.1 4 0 - 1)).1 5 0 + 1)).2.2.1 0 0 ((f + (aDN α - 1)) % 40) = nI (chg (aCH α) (aDN α - 1)).1 := y1
    have t2 : (sI (sI σ 4 0 (σ.1 4 0 - 1)) 5 0 ((sI σ 4 0 (σ.1 4 0 - 1)).1 5 0 + 1)).2.2.1 1 0 ((f + (aDN α - 1)) % 40) = nI (chg (aCH α) (aDN α - 1)).2.1 := y2
    have t3 : (sI (sI σ 4 0 (σ.1 4 0 - 1)) 5 0 ((sI σ 4 0 (σ.1 4 0 - 1)).1 5 0 + 1)).2.2.1 2 0 ((f + (aDN α - 1)) % 40) = nI (chg (aCH α) (aDN α - 1)).2.2.1 := y3
    rw [t1, t2, t3, s1, bnd1_e, s3, e4]
    obtain ⟨w1, w2, _⟩ := m3 (aDN α - 1) (by omega)
    have u5 : (sI τ 605 0 (τ.1 605 0 - 1)).1 605 0 = nI (aDN α - 1) := by
      rw [sI_at, m1]
      exact pk_sub (b := 1) (by omega)
    have u1 : (sI τ 605 0 (τ.1 605 0 - 1)).2.2.1 601 0 (aDN α - 1) = nI (whr (chg (aCH α) (aDN α - 1)).1 (chg (aCH α) (aDN α - 1)).2.1) := w1
    have u2 : (sI τ 605 0 (τ.1 605 0 - 1)).2.2.1 602 0 (aDN α - 1) = nI (chg (aCH α) (aDN α - 1)).2.2.1 := w2
    rw [if_neg z2, u5, chk_in (show aDN α - 1 < 40 by omega) (by omega), chk_in (show aDN α - 1 < 40 by omega) (by omega), nI_clamp (show aDN α - 1 < 2 ^ 31 by omega), u1, u2, chk_in hlt (by omega), nI_clamp (show whr (chg (aCH α) (aDN α - 1)).1 (chg (aCH α) (aDN α - 1)).2.1 < 2 ^ 31 by omega), bnd_e]
    have hm1 : AbsM (uCH α (aCH α) (aDN α - 1)) (sI τ 605 0 (τ.1 605 0 - 1)) := absM_CH hm (fun x o _ hx => if_neg (fun z => hx z.1)) (fun _ _ _ _ _ => rfl) rfl ⟨u5, m2, m3⟩
    have hm2 := absM_set (v := (chg (aCH α) (aDN α - 1)).2.2.1) ho1 hm1 x1
    have u6 : (sA (sI τ 605 0 (τ.1 605 0 - 1)) 600 0 (upd ((sI τ 605 0 (τ.1 605 0 - 1)).2.2.1 600 0) (whr (chg (aCH α) (aDN α - 1)).1 (chg (aCH α) (aDN α - 1)).2.1) (nI (chg (aCH α) (aDN α - 1)).2.2.1))).1 605 0 = nI (aDN α - 1) := u5
    rw [u6]
    exact ⟨_, _, _, rfl, rfl, _, okA_mono (okA_set ho1 x1 x2), s2, hm2⟩
theorem sp33 (k : Nat) : Step_33 (Rel k) (Rel (k + 1)) := by
  intro σ τ hr
  obtain ⟨α, ho, hc, hm⟩ := hr
  have hR : Rel (k + 1) σ τ := ⟨α, okA_mono ho, hc, hm⟩
  have hl := (oNm ho).1
  obtain ⟨a1, a2, a3⟩ := ho.2.2.2.1
  obtain ⟨g1, g2, f, hf, g3, g4⟩ := cCh hc
  obtain ⟨m1, m2, m3⟩ := mCh hm
  unfold f_X11_redo f_X12_redo f_X0_stepOn
  by_cases e0 : aDN α = (aCH α).length
  · rw [if_pos (show σ.1 5 0 = 0 by rw [g2, e0, Nat.sub_self]; rfl), if_pos (show τ.1 605 0 = τ.1 604 0 by rw [m1, m2, e0]), bnd2_e, if_neg neg1_nle]
    exact ⟨_, _, _, rfl, rfl, hR⟩
  · have z1 : ¬ σ.1 5 0 = 0 := by rw [g2]; exact nI_lit_ne (m := 0) (by omega) (by omega) (by omega)
    have z2 : ¬ τ.1 605 0 = τ.1 604 0 := by rw [m1, m2]; exact nI_lit_ne e0 (by omega) (by omega)
    obtain ⟨x1, x2, x3⟩ := okC1_use (a3 _ (chg_mem (show aDN α < (aCH α).length by omega)))
    have hlt := whr_lt x1 hl
    have e5 : (sI (sI σ 5 0 (σ.1 5 0 - 1)) 4 0 ((sI σ 5 0 (σ.1 5 0 - 1)).1 4 0 + 1)).1 5 0 = nI ((aCH α).length - (aDN α + 1)) := by
      show σ.1 5 0 - 1 = _
      rw [g2, show (aCH α).length - (aDN α + 1) = (aCH α).length - aDN α - 1 by omega]
      exact pk_sub (b := 1) (by omega)
    have e4 : (sI (sI σ 5 0 (σ.1 5 0 - 1)) 4 0 ((sI σ 5 0 (σ.1 5 0 - 1)).1 4 0 + 1)).1 4 0 = nI (aDN α + 1) := by
      show σ.1 4 0 + 1 = _
      rw [g1, nI_p1]
    have e6 : (sI (sI σ 5 0 (σ.1 5 0 - 1)) 4 0 ((sI σ 5 0 (σ.1 5 0 - 1)).1 4 0 + 1)).1 6 0 = nI f := g3
    have hc1 : AbsC (uCH α (aCH α) (aDN α + 1)) (sI (sI σ 5 0 (σ.1 5 0 - 1)) 4 0 ((sI σ 5 0 (σ.1 5 0 - 1)).1 4 0 + 1)) := absC_CH hc (fun x o hx => (if_neg (fun z => by omega)).trans (if_neg (fun z => by omega))) (fun _ _ _ => rfl) rfl ⟨e4, e5, f, hf, e6, g4⟩
    have ho1 : OkA k (uCH α (aCH α) (aDN α + 1)) := okA_CH ho ⟨a1, by omega, a3⟩
    obtain ⟨σ3, s1, s2, _, s3⟩ := tell_C ho1 hc1 (v := (chg (aCH α) (aDN α)).2.2.2) x1
    have hmod : (f + aDN α) % 40 < 40 := Nat.mod_lt _ (by decide)
    obtain ⟨y1, y2, _, y3⟩ := g4 (aDN α) (by omega)
    have em : nI f + nI (aDN α + 1) - 1 = nI (f + aDN α) := by
      rw [nI_add]
      exact pk_sub (a := f + (aDN α + 1)) (b := 1) (by omega)
    rw [if_neg z1, bnd_e, e4, e6, em, mod40 _ (by omega), bnd2_e, if_pos (nI_0le (by omega)), chk_in hmod (by omega), chk_in hmod (by omega), chk_in hmod (by omega), nI_clamp (by omega)]
    have t1 : (sI (sI σ 5 0 (σ.1 5 0 - 1)) 4 0 ((sI σ 5 0 (σ.1 5 0 - 1)).1 4 0 + 1)).2.2.1 0 0 ((f + aDN α) % 40) = nI (chg (aCH α) (aDN α)).1 := y1
    have t2 : (sI (sI σ 5 0 (σ.1 5 0 - 1)) 4 0 ((sI σ 5 0 (σ.1 5 0 - 1)).1 4 0 + 1)).2.2.1 1 0 ((f + aDN α) % 40) = nI (chg (aCH α) (aDN α)).2.1 := y2
    have t3 : (sI (sI σ 5 0 (σ.1 5 0 - 1)) 4 0 ((sI σ 5 0 (σ.1 5 0 - 1)).1 4 0 + 1)).2.2.1 3 0 ((f + aDN α) % 40) = nI (chg (aCH α) (aDN α)).2.2.2 := y3
    rw [t1, t2, t3, s1, bnd1_e, s3, e5]
    obtain ⟨w1, _, w2⟩ := m3 (aDN α) (by omega)
    have c5 : ¬ (τ.1 605 0 < 0 ∨ 40 ≤ (τ.1 605 0).toNatClampNeg) := by rw [m1]; exact in_nI (by omega) (by omega)
    have c6 : (τ.1 605 0).toNatClampNeg = aDN α := by rw [m1]; exact nI_clamp (by omega)
    rw [if_neg z2, chk_e c5, chk_e c5, c6, w1, w2, chk_in hlt (by omega), nI_clamp (show whr (chg (aCH α) (aDN α)).1 (chg (aCH α) (aDN α)).2.1 < 2 ^ 31 by omega), bnd_e]
    have hm1 := absM_set (v := (chg (aCH α) (aDN α)).2.2.2) ho hm x1
    have hm2 : AbsM (uCH (setV α (chg (aCH α) (aDN α)).1 (chg (aCH α) (aDN α)).2.1 (chg (aCH α) (aDN α)).2.2.2) (aCH α) (aDN α + 1)) (sI (sA τ 600 0 (upd (τ.2.2.1 600 0) (whr (chg (aCH α) (aDN α)).1 (chg (aCH α) (aDN α)).2.1) (nI (chg (aCH α) (aDN α)).2.2.2))) 605 0 ((sA τ 600 0 (upd (τ.2.2.1 600 0) (whr (chg (aCH α) (aDN α)).1 (chg (aCH α) (aDN α)).2.1) (nI (chg (aCH α) (aDN α)).2.2.2))).1 605 0 + 1)) := by
      refine absM_CH hm1 (fun x o _ hx => if_neg (fun z => hx z.1)) (fun _ _ _ _ _ => rfl) rfl ⟨?_, m2, m3⟩
      show τ.1 605 0 + 1 = nI (aDN α + 1)
      rw [m1, nI_p1]
    rw [set_uCH x1] at hm2
    have e9 : (sI (sA τ 600 0 (upd (τ.2.2.1 600 0) (whr (chg (aCH α) (aDN α)).1 (chg (aCH α) (aDN α)).2.1) (nI (chg (aCH α) (aDN α)).2.2.2))) 605 0 ((sA τ 600 0 (upd (τ.2.2.1 600 0) (whr (chg (aCH α) (aDN α)).1 (chg (aCH α) (aDN α)).2.1) (nI (chg (aCH α) (aDN α)).2.2.2))).1 605 0 + 1)).1 604 0 - (sI (sA τ 600 0 (upd (τ.2.2.1 600 0) (whr (chg (aCH α) (aDN α)).1 (chg (aCH α) (aDN α)).2.1) (nI (chg (aCH α) (aDN α)).2.2.2))) 605 0 ((sA τ 600 0 (upd (τ.2.2.1 600 0) (whr (chg (aCH α) (aDN α)).1 (chg (aCH α) (aDN α)).2.1) (nI (chg (aCH α) (aDN α)).2.2.2))).1 605 0 + 1)).1 605 0 = nI ((aCH α).length - (aDN α + 1)) := by
      show τ.1 604 0 - (τ.1 605 0 + 1) = _
      rw [m1, m2, nI_p1]
      exact pk_sub (by omega)
    exact ⟨_, _, _, rfl, congrArg (fun x => some (x, _)) e9, _, okA_mono (okA_set ho1 x1 x3), s2, hm2⟩
/-! 0 name -/
def spB (len : Nat) (it : Nat → Int64) (a : Nat) : Nat → Nat → Bool
  | 0, _ => true
  | m + 1, i => decide (a + i < len) && (decide (0 ≤ it (a + i) ∧ it (a + i) ≤ 11) && spB len it a m (i + 1))
theorem spB_all {len : Nat} {it : Nat → Int64} {a : Nat} : ∀ {m i}, spB len it a m i = true → ∀ j, i ≤ j → j < i + m → a + j < len ∧ (0 ≤ it (a + j) ∧ it (a + j) ≤ 11)
  | 0, i, _, j, h1, h2 => absurd h2 (by omega)
  | m + 1, i, h, j, h1, h2 => by
    have h3 : (decide (a + i < len) && (decide (0 ≤ it (a + i) ∧ it (a + i) ≤ 11) && spB len it a m (i + 1))) = true := h
    have h4 := (Bool.and_eq_true _ _).mp h3
    have h5 := (Bool.and_eq_true _ _).mp h4.2
    by_cases e : j = i
    · subst e
      exact ⟨of_decide_eq_true h4.1, of_decide_eq_true h5.1⟩
    · exact spB_all h5.2 j (by omega) (by omega)
/-- the LETTERS of a NAME from a ROW -/
def lts (it : Nat → Int64) (a n : Nat) : List Nat := (List.range n).map (fun i => (it (a + i)).toInt.toNat)
theorem lts_len (it : Nat → Int64) (a n : Nat) : (lts it a n).length = n := by
  unfold lts
  rw [List.length_map, List.length_range]
theorem lts_at {it : Nat → Int64} {a n i : Nat} (h : i < n) : (lts it a n).getD i 0 = (it (a + i)).toInt.toNat := by
  unfold lts
  rw [List.getD_eq_getElem?_getD, List.getElem?_map, List.getElem?_range h]
  rfl
theorem letterAt_S {σ : St} {d len : Nat} {it : Nat → Int64} (h1 : len ≤ 60) (h2 : σ.1 403 d = nI len) (h3 : ∀ i, i < len → σ.2.2.2.1 400 d i = it i) {i : Nat} (hi : i < 2 ^ 31) : f_X8_letterAt σ d (nI i) = some (laN len it i, σ) := by
  unfold f_X8_letterAt laN
  rw [hasRun_C σ d h1 h2, bnd2_e]
  by_cases h : i < len
  · rw [tf_t ⟨nI_0le hi, nI_lt h (by omega)⟩, if_neg one_n0, if_pos h, chk_in (show i < 60 by omega) (by omega), chk_in (show i < 60 by omega) (by omega), nI_clamp hi, h3 i h, e_X11_isLetter, bnd1_e]
    unfold lvN
    by_cases h4 : 0 ≤ it i ∧ it i ≤ 11
    · rw [tf_t h4, if_neg one_n0, if_pos h4]
    · rw [tf_f h4, if_pos rfl, if_neg h4]
  · rw [tf_f (fun q => h ((nI_ltI hi (by omega)).mp q.2)), if_pos rfl, if_neg h]
theorem la_of {len : Nat} {it : Nat → Int64} {i : Nat} (h : i < len) (h2 : 0 ≤ it i ∧ it i ≤ 11) : laN len it i = nI (it i).toInt.toNat ∧ (it i).toInt32 = nI (it i).toInt.toNat ∧ (it i).toInt.toNat < 12 := by
  obtain ⟨j, hj, e1, e2⟩ := lv_of h2
  have e3 : (it i).toInt32 = nI (it i).toInt.toNat := by rw [e2, e1, lN_i]
  refine ⟨?_, e3, by rw [e2]; exact hj⟩
  unfold laN lvN
  rw [if_pos h, if_pos h2, e3]
theorem spells_C {σ : St} {d len : Nat} {it : Nat → Int64} (h1 : len ≤ 60) (h2 : σ.1 403 d = nI len) (h3 : ∀ i, i < len → σ.2.2.2.1 400 d i = it i) {a n : Nat} (ha : a < 2 ^ 30) (hn : n ≤ 6) : ∀ m i f, i + m = n → m < f → f_X8_spells_b2 f σ d (nI a) (nI n) (nI i) = some (tf (spB len it a m i = true), σ) := by
  intro m
  induction m with
  | zero =>
    intro i f hi hf
    obtain ⟨f, rfl⟩ : ∃ x, f = x + 1 := ⟨f - 1, by omega⟩
    rw [f_X8_spells_b2, if_pos (nI_le (by omega) (by omega)), tf_t (show spB len it a 0 i = true from rfl)]
  | succ m ih =>
    intro i f hi hf
    obtain ⟨f, rfl⟩ : ∃ x, f = x + 1 := ⟨f - 1, by omega⟩
    rw [f_X8_spells_b2, if_neg (nI_ge (show i < n by omega) (by omega)), nI_add, letterAt_S h1 h2 h3 (show a + i < 2 ^ 31 by omega), bnd2_e]
    simp only [bnd_e, nI_p1]
    by_cases e1 : a + i < len
    · by_cases e2 : 0 ≤ it (a + i) ∧ it (a + i) ≤ 11
      · obtain ⟨g1, _, g3⟩ := la_of e1 e2
        have e3 : spB len it a (m + 1) i = spB len it a m (i + 1) := by
          rw [spB, decide_eq_true e1, decide_eq_true e2, Bool.true_and, Bool.true_and]
        rw [g1, if_pos (nI_0le (by omega)), ih (i + 1) f (by omega) (by omega), e3]
      · have e3 : spB len it a (m + 1) i = false := by
          rw [spB, decide_eq_false e2, Bool.false_and, Bool.and_false]
        have g1 : laN len it (a + i) = -1 := by
          unfold laN lvN
          rw [if_pos e1, if_neg e2]
        rw [g1, if_neg neg1_nle, tf_f (by rw [e3]; decide)]
    · have e3 : spB len it a (m + 1) i = false := by
        rw [spB, decide_eq_false e1, Bool.false_and]
      have g1 : laN len it (a + i) = -1 := if_neg e1
      rw [g1, if_neg neg1_nle, tf_f (by rw [e3]; decide)]
theorem spells_M {k : Nat} {α : Ab} {τ : St} (ho : OkA k α) (hm : AbsM α τ) {d : Nat} (hd : d < 6) (ht : 51 ≤ (aSH α d).1) (h60 : (aSH α d).2.1 ≤ 60) {a n : Nat} (ha : a < 2 ^ 30) (hn : n ≤ 6) : ∀ m i f, i + m = n → m < f → f_X12_name_b56 f τ (nI d) (nI a) (nI n) (nI i) = if spB (aSH α d).2.1 (aSH α d).2.2 a m i = true then (if τ.1 606 0 = 10 then some (-3, τ) else f_X12_name_b114 256 τ (nI d) (nI a) (nI n) (0 : Int32)) else some (-1, τ) := by
  intro m
  induction m with
  | zero =>
    intro i f hi hf
    obtain ⟨f, rfl⟩ : ∃ x, f = x + 1 := ⟨f - 1, by omega⟩
    rw [f_X12_name_b56, if_pos (nI_le (by omega) (by omega)), if_pos (show spB (aSH α d).2.1 (aSH α d).2.2 a 0 i = true from rfl)]
  | succ m ih =>
    intro i f hi hf
    obtain ⟨f, rfl⟩ : ∃ x, f = x + 1 := ⟨f - 1, by omega⟩
    rw [f_X12_name_b56, if_neg (nI_ge (show i < n by omega) (by omega)), chk_in hd (by omega), nI_clamp (by omega), (row_M hm hd ht).1, nI_add]
    by_cases e1 : a + i < (aSH α d).2.1
    · rw [if_neg (nI_ge e1 (by omega)), itemAt_M hm hd ht e1 h60, bnd2_e, e_X12_isLetter, bnd1_e]
      simp only [bnd_e, nI_p1]
      by_cases e2 : 0 ≤ (aSH α d).2.2 (a + i) ∧ (aSH α d).2.2 (a + i) ≤ 11
      · have e3 : spB (aSH α d).2.1 (aSH α d).2.2 a (m + 1) i = spB (aSH α d).2.1 (aSH α d).2.2 a m (i + 1) := by
          rw [spB, decide_eq_true e1, decide_eq_true e2, Bool.true_and, Bool.true_and]
        rw [tf_t e2, if_neg one_n0, ih (i + 1) f (by omega) (by omega), e3]
      · have e3 : spB (aSH α d).2.1 (aSH α d).2.2 a (m + 1) i = false := by
          rw [spB, decide_eq_false e2, Bool.false_and, Bool.and_false]
        rw [tf_f e2, if_pos rfl, if_neg (by rw [e3]; decide)]
    · have e3 : spB (aSH α d).2.1 (aSH α d).2.2 a (m + 1) i = false := by
        rw [spB, decide_eq_false e1, Bool.false_and]
      rw [if_pos (nI_le (Nat.not_lt.mp e1) (by omega)), if_neg (by rw [e3]; decide)]
/-- a new NAME: the class's rows, the model's -/
def nmC (σ : St) (N n : Nat) (L : Nat → Int32) : St := sI (sA (sA (sA σ 300 0 L) 301 0 (upd (σ.2.2.1 301 0) N (nI n))) 302 0 (upd (σ.2.2.1 302 0) N 1)) 303 0 (σ.1 303 0 + 1)
def nmM (τ : St) (N n : Nat) (L : Nat → Int32) : St := sI (sA (sA (sA τ 608 0 L) 607 0 (upd (τ.2.2.1 607 0) N (nI n))) 600 0 (upd (τ.2.2.1 600 0) N 1)) 606 0 (τ.1 606 0 + 1)
theorem enter_loop {d len N : Nat} {it : Nat → Int64} (h1 : len ≤ 60) (hN : N < 10) {a n : Nat} (ha : a < 2 ^ 30) (hn : n ≤ 6) (hall : ∀ j, j < n → a + j < len ∧ (0 ≤ it (a + j) ∧ it (a + j) ≤ 11)) : ∀ m i f σ, i + m = n → m < f → σ.1 403 d = nI len → (∀ i, i < len → σ.2.2.2.1 400 d i = it i) → ∃ L, f_X6_enter_b9 f σ d (nI a) (nI n) (nI N) (nI i) = some (nI N, nmC σ N n L) ∧ (∀ j, i ≤ j → j < n → L (6 * N + j) = nI (it (a + j)).toInt.toNat) ∧ ∀ x, (x < 6 * N + i ∨ 6 * N + n ≤ x) → L x = σ.2.2.1 300 0 x := by
  intro m
  induction m with
  | zero =>
    intro i f σ hi hf h2 h3
    obtain ⟨f, rfl⟩ : ∃ x, f = x + 1 := ⟨f - 1, by omega⟩
    rw [f_X6_enter_b9, if_pos (nI_le (by omega) (by omega))]
    simp only [chk_in hN (show 10 ≤ 2000000000 by omega), bnd_e]
    simp only [nI_clamp (show N < 2 ^ 31 by omega)]
    refine ⟨σ.2.2.1 300 0, ?_, fun j q1 q2 => absurd q2 (by omega), fun x _ => rfl⟩
    unfold nmC
    rw [sA_self]
    rfl
  | succ m ih =>
    intro i f σ hi hf h2 h3
    obtain ⟨f, rfl⟩ : ∃ x, f = x + 1 := ⟨f - 1, by omega⟩
    obtain ⟨g1, g2⟩ := hall i (by omega)
    obtain ⟨g3, _, _⟩ := la_of g1 g2
    rw [f_X6_enter_b9, if_neg (nI_ge (show i < n by omega) (by omega)), nI_add, letterAt_S h1 h2 h3 (show a + i < 2 ^ 31 by omega), bnd2_e, six_c, chk_in (show 6 * N + i < 60 by omega) (by omega), nI_clamp (show 6 * N + i < 2 ^ 31 by omega), g3]
    simp only [bnd_e, nI_p1]
    obtain ⟨L, q1, q2, q3⟩ := ih (i + 1) f (sA σ 300 0 (upd (σ.2.2.1 300 0) (6 * N + i) (nI (it (a + i)).toInt.toNat))) (by omega) (by omega) h2 h3
    have e : nmC (sA σ 300 0 (upd (σ.2.2.1 300 0) (6 * N + i) (nI (it (a + i)).toInt.toNat))) N n L = nmC σ N n L := by
      unfold nmC
      rw [sA_sA]
      rfl
    rw [e] at q1
    refine ⟨L, q1, fun j w1 w2 => ?_, fun x hx => ?_⟩
    · by_cases y : j = i
      · subst y
        exact (q3 (6 * N + j) (by omega)).trans pk_us
      · exact q2 j (by omega) w2
    · exact (q3 x (by omega)).trans (pk_un (by omega))
theorem name_loop {k : Nat} {α : Ab} (ho : OkA k α) {d N : Nat} (hd : d < 6) (ht : 51 ≤ (aSH α d).1) (h60 : (aSH α d).2.1 ≤ 60) (hN : N < 10) {a n : Nat} (ha : a < 2 ^ 30) (hn : n ≤ 6) (hall : ∀ j, j < n → a + j < (aSH α d).2.1 ∧ (0 ≤ (aSH α d).2.2 (a + j) ∧ (aSH α d).2.2 (a + j) ≤ 11)) : ∀ m i f τ, i + m = n → m < f → τ.1 606 0 = nI N → (∀ i, i < (aSH α d).2.1 → τ.2.2.2.1 641 0 (60 * d + i) = (aSH α d).2.2 i) → ∃ L, f_X12_name_b114 f τ (nI d) (nI a) (nI n) (nI i) = some (nI N, nmM τ N n L) ∧ (∀ j, i ≤ j → j < n → L (6 * N + j) = nI ((aSH α d).2.2 (a + j)).toInt.toNat) ∧ ∀ x, (x < 6 * N + i ∨ 6 * N + n ≤ x) → L x = τ.2.2.1 608 0 x := by
  intro m
  induction m with
  | zero =>
    intro i f τ hi hf h2 h3
    obtain ⟨f, rfl⟩ : ∃ x, f = x + 1 := ⟨f - 1, by omega⟩
    have c1 : ¬ (τ.1 606 0 < 0 ∨ 10 ≤ (τ.1 606 0).toNatClampNeg) := by rw [h2]; exact in_nI hN (by omega)
    have c2 : ¬ ((sA τ 607 0 (upd (τ.2.2.1 607 0) (τ.1 606 0).toNatClampNeg (nI n))).1 606 0 < 0 ∨ 179 ≤ ((sA τ 607 0 (upd (τ.2.2.1 607 0) (τ.1 606 0).toNatClampNeg (nI n))).1 606 0).toNatClampNeg) := by
      show ¬ (τ.1 606 0 < 0 ∨ 179 ≤ (τ.1 606 0).toNatClampNeg)
      rw [h2]
      exact in_nI (by omega) (by omega)
    rw [f_X12_name_b114, if_pos (nI_le (by omega) (by omega)), chk_e c1, bnd_e, chk_e c2, bnd_e]
    have e7 : (τ.1 606 0).toNatClampNeg = N := by rw [h2]; exact nI_clamp (by omega)
    refine ⟨τ.2.2.1 608 0, ?_, fun j q1 q2 => absurd q2 (by omega), fun x _ => rfl⟩
    have e8 : (sI (sA (sA τ 607 0 (upd (τ.2.2.1 607 0) (τ.1 606 0).toNatClampNeg (nI n))) 600 0 (upd ((sA τ 607 0 (upd (τ.2.2.1 607 0) (τ.1 606 0).toNatClampNeg (nI n))).2.2.1 600 0) ((sA τ 607 0 (upd (τ.2.2.1 607 0) (τ.1 606 0).toNatClampNeg (nI n))).1 606 0).toNatClampNeg 1)) 606 0 ((sA (sA τ 607 0 (upd (τ.2.2.1 607 0) (τ.1 606 0).toNatClampNeg (nI n))) 600 0 (upd ((sA τ 607 0 (upd (τ.2.2.1 607 0) (τ.1 606 0).toNatClampNeg (nI n))).2.2.1 600 0) ((sA τ 607 0 (upd (τ.2.2.1 607 0) (τ.1 606 0).toNatClampNeg (nI n))).1 606 0).toNatClampNeg 1)).1 606 0 + 1)) = nmM τ N n (τ.2.2.1 608 0) := by
      unfold nmM
      rw [sA_self, ← e7]
      rfl
    rw [e8]
    have e9 : (nmM τ N n (τ.2.2.1 608 0)).1 606 0 - 1 = nI N := by
      show τ.1 606 0 + 1 - 1 = nI N
      rw [h2, nI_p1]
      exact pk_sub (a := N + 1) (b := 1) (by omega)
    rw [e9]
  | succ m ih =>
    intro i f τ hi hf h2 h3
    obtain ⟨f, rfl⟩ : ∃ x, f = x + 1 := ⟨f - 1, by omega⟩
    obtain ⟨g1, g2⟩ := hall i (by omega)
    obtain ⟨_, g4, _⟩ := la_of g1 g2
    have ei : f_X12_itemAt τ (nI d) (nI (a + i)) = some ((aSH α d).2.2 (a + i), τ) := by
      unfold f_X12_itemAt
      rw [ix60, chk_in (show 60 * d + (a + i) < 360 by omega) (by omega), nI_clamp (by omega), h3 (a + i) g1]
    rw [f_X12_name_b114, if_neg (nI_ge (show i < n by omega) (by omega)), nI_add, ei, bnd2_e, h2, six_m, chk_in (show 6 * N + i < 60 by omega) (by omega), nI_clamp (show 6 * N + i < 2 ^ 31 by omega), g4]
    simp only [bnd_e, nI_p1]
    obtain ⟨L, q1, q2, q3⟩ := ih (i + 1) f (sA τ 608 0 (upd (τ.2.2.1 608 0) (6 * N + i) (nI ((aSH α d).2.2 (a + i)).toInt.toNat))) (by omega) (by omega) h2 h3
    have e : nmM (sA τ 608 0 (upd (τ.2.2.1 608 0) (6 * N + i) (nI ((aSH α d).2.2 (a + i)).toInt.toNat))) N n L = nmM τ N n L := by
      unfold nmM
      rw [sA_sA]
      rfl
    rw [e] at q1
    refine ⟨L, q1, fun j w1 w2 => ?_, fun x hx => ?_⟩
    · by_cases y : j = i
      · subst y
        exact (q3 (6 * N + j) (by omega)).trans pk_us
      · exact q2 j (by omega) w2
    · exact (q3 x (by omega)).trans (pk_un (by omega))
/-- one NAME more -/
def uN (α : Ab) (l : List Nat) : Ab := ((aN α ++ [l], fun n => if n = (aN α).length then 1 else aK α n), α.2)
theorem nmN_l {N : List (List Nat)} {l : List Nat} {n : Nat} (h : n < N.length) : nmL (N ++ [l]) n = nmL N n := gd_l N l [] h
theorem nmN_r {N : List (List Nat)} {l : List Nat} : nmL (N ++ [l]) N.length = l := gd_r N l []
theorem okA_N {k : Nat} {α : Ab} (h : OkA k α) {l : List Nat} (hN : (aN α).length < 10) (hl : 1 ≤ l.length ∧ l.length ≤ 6) (hl2 : ∀ i, l.getD i 0 < 12) : OkA k (uN α l) := by
  have hn := oNm h
  have hm : ∀ n, n < (aN α).length → n < (aN α ++ [l]).length := fun n q => by rw [len_push]; omega
  have okD : ∀ d, OkD (aN α) k d → OkD (aN α ++ [l]) k d := fun d q => ⟨q.1.imp (fun z => z) (fun ⟨n, z1, z2⟩ => ⟨n, hm n z1, z2⟩), q.2⟩
  refine ⟨⟨by show (aN α ++ [l]).length ≤ 10; rw [len_push]; omega, fun n hn2 => ?_, fun n i => ?_, fun n => ?_⟩, h.2.1, h.2.2.1, ?_, okD _ (oDe h), fun d e => okD d (h.2.2.2.2.2.1 d e), h.2.2.2.2.2.2⟩
  · have hn2 : n < (aN α ++ [l]).length := hn2
    rw [len_push] at hn2
    show 1 ≤ (nmL (aN α ++ [l]) n).length ∧ (nmL (aN α ++ [l]) n).length ≤ 6
    by_cases e : n = (aN α).length
    · rw [e, nmN_r]; exact hl
    · rw [nmN_l (by omega)]; exact hn.2.1 n (by omega)
  · show ((aN α ++ [l]).getD n []).getD i 0 < 12
    by_cases e : n < (aN α).length
    · rw [gd_l _ _ _ e]; exact hn.2.2.1 n i
    · by_cases e2 : n = (aN α).length
      · rw [e2, gd_r]; exact hl2 i
      · rw [gd_o (aN α ++ [l]) _ (by rw [len_push]; omega)]
        show 0 < 12
        omega
  · show (if n = (aN α).length then 1 else aK α n) ≤ 9
    have := hn.2.2.2 n
    split <;> omega
  · obtain ⟨c1, c2, c3⟩ := h.2.2.2.1
    refine ⟨c1, c2, fun c hc => ?_⟩
    rcases c3 c hc with z | z | z | z | z
    · exact Or.inl ⟨z.1, hm _ z.2.1, z.2.2⟩
    · exact Or.inr (Or.inl z)
    · exact Or.inr (Or.inr (Or.inl z))
    · exact Or.inr (Or.inr (Or.inr (Or.inl z)))
    · exact Or.inr (Or.inr (Or.inr (Or.inr z)))
theorem namesP_N {α : Ab} {cnt : Int32} {sz lt kn : Nat → Int32} (h : NamesP (aN α) (aK α) cnt sz lt kn) (h9 : ∀ n, n < (aN α).length → (nmL (aN α) n).length ≤ 6) {l : List Nat} {L : Nat → Int32} (hl6 : l.length ≤ 6) (h1 : ∀ j, j < l.length → L (6 * (aN α).length + j) = nI (l.getD j 0)) (h2 : ∀ x, x < 6 * (aN α).length → L x = lt x) : NamesP (aN α ++ [l]) (fun n => if n = (aN α).length then 1 else aK α n) (cnt + 1) (upd sz (aN α).length (nI l.length)) L (upd kn (aN α).length 1) := by
  refine ⟨?_, fun n hn => ?_⟩
  · rw [h.1, nI_p1, len_push]
  · rw [len_push] at hn
    by_cases e : n = (aN α).length
    · subst e
      rw [nmN_r, pk_us, pk_us]
      refine ⟨rfl, ?_, fun i hi => ?_⟩
      · show (1 : Int32) = nI (if (aN α).length = (aN α).length then 1 else aK α (aN α).length)
        rw [if_pos rfl]
        rfl
      · rw [h1 i hi]
        show _ = nI (((aN α ++ [l]).getD (aN α).length []).getD i 0)
        rw [gd_r]
    · have hn2 : n < (aN α).length := by omega
      rw [nmN_l hn2, pk_un e, pk_un e]
      refine ⟨(h.2 n hn2).1, ?_, fun i hi => ?_⟩
      · show kn n = nI (if n = (aN α).length then 1 else aK α n)
        rw [if_neg e]
        exact (h.2 n hn2).2.1
      · have := h9 n hn2
        rw [h2 _ (by omega)]
        show _ = nI (((aN α ++ [l]).getD n []).getD i 0)
        rw [gd_l _ _ _ hn2]
        exact (h.2 n hn2).2.2 i hi
theorem sp0 (k : Nat) : Step_0 (Rel k) (Rel (k + 1)) := by
  intro σ τ p q hr
  obtain ⟨α, ho, hc, hm⟩ := hr
  have hR : Rel (k + 1) σ τ := ⟨α, okA_mono ho, hc, hm⟩
  have hl := (oNm ho).1
  have hw : f_X12_within (q - q / 10 * 10).toInt64 1 6 = some (tf (1 ≤ q - q / 10 * 10 ∧ q - q / 10 * 10 ≤ 6)) := w32 _ 1 6
  unfold f_X11_name f_X12_name
  rw [bnd_e, hw]
  have bad : bnd1 (f_X12_isShelf p) (fun r2 => if r2 = 0 then some ((-1 : Int32), τ) else some (-1, τ)) = some (-1, τ) := by
    rcases shelf_both p with ⟨d, _, _, _, h2⟩ | ⟨_, h2⟩
    · rw [h2, bnd1_e, ite_self]
    · rw [h2, bnd1_e, ite_self]
  by_cases h0 : q < 0
  · simp only [if_pos h0]
    rw [bad]
    exact ⟨_, _, _, rfl, rfl, hR⟩
  · simp only [if_neg h0]
    by_cases h1 : 1 ≤ q - q / 10 * 10 ∧ q - q / 10 * 10 ≤ 6
    · rw [if_neg ((lt1 _).mpr h1.1), if_pos h1.2, tf_t h1]
      simp only [bnd1_e, if_neg one_n0]
      obtain ⟨z, hz, eq⟩ := nI_of h0
      have e1 : q / 10 = nI (z / 10) := by rw [eq]; exact pk_div (d := 10) hz (by omega) (by omega)
      have e2 : q - q / 10 * 10 = nI (z % 10) := by rw [eq]; exact pk_rem (d := 10) hz (by omega) (by omega)
      have hn6 : z % 10 ≤ 6 := by
        have h5 := h1.2
        rw [e2] at h5
        exact (nI_leI (b := 6) (by omega) (by omega)).mp h5
      have hn1 : 1 ≤ z % 10 := by
        have h5 := h1.1
        rw [e2] at h5
        exact (nI_leI (a := 1) (by omega) (by omega)).mp h5
      rcases bytes_both ho hc hm p with ⟨d, hd, ed, ht, b1, b2⟩ | ⟨b, hb, b1, b2⟩
      · have hsh : f_X12_isShelf p = some 1 := by
          rcases shelf_both p with ⟨_, _, _, _, h2⟩ | ⟨h2, h3⟩
          · exact h2
          · exfalso
            unfold f_X11_refusedBytes at b1
            rw [h2, bnd1_e, if_pos rfl] at b1
            have y : (-1 : Int32) = 0 := congrArg Prod.fst (Option.some.inj b1)
            exact absurd y (by decide)
        rw [b1, hsh, bnd1_e, if_neg one_n0, b2, bnd2_e, bnd2_e, if_pos rfl, if_pos zle1]
        subst ed
        obtain ⟨r1, r2, r3⟩ := row_C ho hc hd (show 51 ≤ (aSH α d).1 by omega)
        rw [e2, e1]
        simp only [bnd_e]
        rw [chk_in hd (by omega), nI_clamp (show d < 2 ^ 31 by omega)]
        have hs0 : f_X8_spells0 σ d (nI (z / 10)) (nI (z % 10)) = _ := spells_C r1 r2 r3 (show z / 10 < 2 ^ 30 by omega) hn6 (z % 10) 0 256 (by omega) (by omega)
        have hs : f_X8_spells σ d (nI (z / 10)) (nI (z % 10)) = some (tf (spB (aSH α d).2.1 (aSH α d).2.2 (z / 10) (z % 10) 0 = true), σ) := by
          unfold f_X8_spells
          rw [hs0, chkB_tf]
        have hsM : f_X12_name_b56 256 τ (nI d) (nI (z / 10)) (nI (z % 10)) (0 : Int32) = _ := spells_M ho hm hd (show 51 ≤ (aSH α d).1 by omega) r1 (show z / 10 < 2 ^ 30 by omega) hn6 (z % 10) 0 256 (by omega) (by omega)
        rw [hs, bnd2_e, hsM]
        by_cases hB : spB (aSH α d).2.1 (aSH α d).2.2 (z / 10) (z % 10) 0 = true
        · rw [tf_t hB, if_neg one_n0, if_pos hB]
          have hall : ∀ j, j < z % 10 → z / 10 + j < (aSH α d).2.1 ∧ (0 ≤ (aSH α d).2.2 (z / 10 + j) ∧ (aSH α d).2.2 (z / 10 + j) ≤ 11) := fun j hj => spB_all hB j (Nat.zero_le j) (by omega)
          by_cases hN : (aN α).length = 10
          · rw [if_neg (show ¬ σ.1 303 0 < 10 by rw [hc.1.1, hN]; decide), if_pos (show τ.1 606 0 = 10 by rw [hm.1.1, hN]; rfl)]
            exact ⟨_, _, _, rfl, rfl, hR⟩
          · have hN10 : (aN α).length < 10 := by omega
            rw [if_pos (show σ.1 303 0 < 10 by rw [hc.1.1]; exact nI_lt (b := 10) hN10 (by omega)), if_neg (show ¬ τ.1 606 0 = 10 by rw [hm.1.1]; exact nI_lit_ne (m := 10) hN (by omega) (by omega)), chk_i2 hd (by omega)]
            obtain ⟨L, l1, l2, l3⟩ := enter_loop r1 hN10 (show z / 10 < 2 ^ 30 by omega) hn6 hall (z % 10) 0 256 σ (by omega) (by omega) r2 r3
            obtain ⟨M, n1, n2, n3⟩ := name_loop ho hd (show 51 ≤ (aSH α d).1 by omega) r1 hN10 (show z / 10 < 2 ^ 30 by omega) hn6 hall (z % 10) 0 256 τ (by omega) (by omega) hm.1.1 (row_M hm hd (show 51 ≤ (aSH α d).1 by omega)).2
            have n1' : f_X12_name_b114 256 τ (nI d) (nI (z / 10)) (nI (z % 10)) (0 : Int32) = _ := n1
            have l1' : f_X6_enter σ d (nI (z / 10)) (nI (z % 10)) = some (nI (aN α).length, nmC σ (aN α).length (z % 10) L) := by
              unfold f_X6_enter
              rw [bnd_e, hc.1.1]
              exact l1
            rw [l1', bnd2_e, n1']
            have hlen := lts_len (aSH α d).2.2 (z / 10) (z % 10)
            have hsz9 : ∀ n, n < (aN α).length → (nmL (aN α) n).length ≤ 6 := fun n hn => ((oNm ho).2.1 n hn).2
            have hlt : ∀ i, (lts (aSH α d).2.2 (z / 10) (z % 10)).getD i 0 < 12 := by
              intro i
              by_cases hi : i < z % 10
              · rw [lts_at hi]
                exact (la_of (hall i hi).1 (hall i hi).2).2.2
              · rw [gd_o _ _ (by rw [hlen]; omega)]
                show 0 < 12
                omega
            have pC := namesP_N (l := lts (aSH α d).2.2 (z / 10) (z % 10)) (L := L) hc.1 hsz9 (by rw [hlen]; exact hn6) (fun j hj => by
              rw [hlen] at hj
              rw [lts_at hj]
              exact l2 j (Nat.zero_le j) hj) (fun x hx => l3 x (Or.inl (by omega)))
            have pM := namesP_N (l := lts (aSH α d).2.2 (z / 10) (z % 10)) (L := M) hm.1 hsz9 (by rw [hlen]; exact hn6) (fun j hj => by
              rw [hlen] at hj
              rw [lts_at hj]
              exact n2 j (Nat.zero_le j) hj) (fun x hx => n3 x (Or.inl (by omega)))
            rw [hlen] at pC pM
            refine ⟨_, _, _, rfl, rfl, uN α (lts (aSH α d).2.2 (z / 10) (z % 10)), okA_mono (okA_N ho hN10 (by rw [hlen]; exact ⟨hn1, hn6⟩) hlt), ?_, ?_⟩
            · exact ⟨pC, hc.2.1, cache_cong rfl rfl rfl hc.2.2.1, law_cong rfl (fun _ => rfl) (fun _ => rfl) hc.2.2.2.1, hc.2.2.2.2⟩
            · refine ⟨pM, ⟨fun s t q1 q2 => ?_, fun x q => ⟨?_, ?_⟩, ?_⟩, lawM_cong rfl rfl hm.2.2.1, hm.2.2.2⟩
              · exact (pk_un (by omega)).trans (hm.2.1.1 s t q1 q2)
              · exact (pk_un (by omega)).trans (hm.2.1.2.1 x q).1
              · exact (pk_un (by omega)).trans (hm.2.1.2.1 x q).2
              · exact (pk_un (by omega)).trans hm.2.1.2.2
        · rw [tf_f hB, if_pos rfl, if_neg hB]
          exact ⟨_, _, _, rfl, rfl, hR⟩
      · have hb3 := tri_ne hb
        rw [b1, b2, bnd2_e, bnd2_e, if_neg hb3.1, if_neg hb3.2.2, b2, bnd2_e]
        rcases shelf_both p with ⟨_, _, _, _, h2⟩ | ⟨h2, h3⟩
        · rw [h2, bnd1_e, if_neg one_n0]
          exact ⟨_, _, _, rfl, rfl, hR⟩
        · have hb1 : b = -1 := by
            unfold f_X11_refusedBytes at b1
            rw [h2, bnd1_e, if_pos rfl] at b1
            exact (congrArg Prod.fst (Option.some.inj b1)).symm
          rw [h3, bnd1_e, if_pos rfl, hb1]
          exact ⟨_, _, _, rfl, rfl, hR⟩
    · rw [tf_f h1]
      simp only [bnd1_e, if_pos True.intro]
      rw [bad]
      by_cases h2 : q - q / 10 * 10 < 1
      · rw [if_pos h2]
        exact ⟨_, _, _, rfl, rfl, hR⟩
      · rw [if_neg h2, if_neg (fun y => h1 ⟨(lt1 _).mp h2, y⟩)]
        exact ⟨_, _, _, rfl, rfl, hR⟩
