/-! THE LAW's step -/
theorem newLaw_i (X : St) (f o : Nat) (h : ¬ (f = 203 ∧ o = 1)) : (newLaw X).1 f o = X.1 f o := if_neg h
theorem newLaw_a (X : St) (f o : Nat) (h : ¬ (200 ≤ f ∧ f ≤ 202 ∧ o = 1)) : (newLaw X).2.2.1 f o = X.2.2.1 f o := by
  show (if f = 202 ∧ o = 1 then (fun _ => (0 : Int32)) else if f = 201 ∧ o = 1 then (fun _ => (0 : Int32)) else if f = 200 ∧ o = 1 then (fun _ => (0 : Int32)) else X.2.2.1 f o) = _
  rw [if_neg (by omega), if_neg (by omega), if_neg (by omega)]
theorem enact_e {σ : St} {j : Nat} (hR : RefC σ.2.2.2.2) (h5 : σ.2.2.2.2 255 = j + 1) (h3 : σ.2.2.2.2 353 = j + 1) : ∃ σ', f_X5_enact σ = some σ' ∧ (∀ f o, f ≠ 203 ∨ o = j → σ'.1 f o = σ.1 f o) ∧ (∀ f o, f ≠ 257 → ¬ (200 ≤ f ∧ f ≤ 202 ∧ o ≠ j) → σ'.2.2.1 f o = σ.2.2.1 f o) ∧ (∀ x, x < 120 → σ'.2.2.1 257 0 x = -1) ∧ σ'.2.2.2.1 = σ.2.2.2.1 ∧ RefC σ'.2.2.2.2 ∧ σ'.2.2.2.2 254 = j + 1 := by
  obtain ⟨hA, hB1, hB2, hB3⟩ := hR
  have h2 : j = 0 ∨ (j = 1 ∧ σ.2.2.2.2 0 = 2) := by omega
  unfold f_X5_enact
  rw [derefL_e h5 h2]
  by_cases h4 : σ.2.2.2.2 254 = 0
  · have hj : j = 0 := by omega
    subst hj
    rw [if_pos h4, chk_e (show ¬ σ.2.2.2.2 0 = 2 by omega), chk_e (show ¬ 1 < σ.2.2.2.2 353 by omega), chk_e (show ¬ 2 ≤ σ.2.2.2.2 101 by omega), chk_e (show ¬ 2 ≤ σ.2.2.2.2 102 by omega), bnd_e]
    refine ⟨_, rfl, fun f o h => newLaw_i _ f o (by omega), fun f o h6 h7 => ?_, fun x hx => ?_, rfl, ?_, rfl⟩
    · show (if f = 257 ∧ o = 0 then _ else (newLaw (sR σ 254 (0 + 1))).2.2.1 f o) = _
      rw [if_neg (fun z => h6 z.1), newLaw_a _ f o (by omega)]
      rfl
    · rw [sA_at]
      exact if_pos hx
    · show (((2 : Nat) = 1 ∧ (0 + 1 : Nat) = 0 ∧ (1 + 1 : Nat) = 1 ∧ σ.2.2.2.2 353 ≤ 1) ∨ ((2 : Nat) = 2 ∧ (((0 + 1 : Nat) = 1 ∧ (1 + 1 : Nat) = 2) ∨ ((0 + 1 : Nat) = 2 ∧ (1 + 1 : Nat) = 1)) ∧ σ.2.2.2.2 353 ≤ 2)) ∧ σ.2.2.2.2 101 < 2 ∧ σ.2.2.2.2 102 < 2 ∧ σ.2.2.2.2 101 ≠ σ.2.2.2.2 102
      omega
  · rw [if_neg h4, bnd_e]
    refine ⟨_, rfl, fun f o h => rfl, fun f o h6 h7 => if_neg (fun z => h6 z.1), fun x hx => ?_, rfl, ?_, rfl⟩
    · rw [sA_at]
      exact if_pos hx
    · show ((σ.2.2.2.2 0 = 1 ∧ (j + 1 : Nat) = 0 ∧ σ.2.2.2.2 254 - 1 + 1 = 1 ∧ σ.2.2.2.2 353 ≤ 1) ∨ (σ.2.2.2.2 0 = 2 ∧ (((j + 1 : Nat) = 1 ∧ σ.2.2.2.2 254 - 1 + 1 = 2) ∨ ((j + 1 : Nat) = 2 ∧ σ.2.2.2.2 254 - 1 + 1 = 1)) ∧ σ.2.2.2.2 353 ≤ 2)) ∧ σ.2.2.2.2 101 < 2 ∧ σ.2.2.2.2 102 < 2 ∧ σ.2.2.2.2 101 ≠ σ.2.2.2.2 102
      omega
theorem refC_353 {R : Nat → Nat} {j : Nat} (hR : RefC R) (h5 : R 255 = j + 1) : RefC (fun f => if f = 353 then j + 1 else R f) := by
  obtain ⟨hA, hB1, hB2, hB3⟩ := hR
  show ((R 0 = 1 ∧ R 254 = 0 ∧ R 255 = 1 ∧ j + 1 ≤ 1) ∨ (R 0 = 2 ∧ ((R 254 = 1 ∧ R 255 = 2) ∨ (R 254 = 2 ∧ R 255 = 1)) ∧ j + 1 ≤ 2)) ∧ R 101 < 2 ∧ R 102 < 2 ∧ R 101 ≠ R 102
  omega
theorem sp5 (k : Nat) : Step_5 (Rel k) (Rel (k + 1)) := by
  intro σ τ hRel
  obtain ⟨α, ho, hc, hm⟩ := hRel
  have hTo := oTp ho
  have hTc := cTp hc
  have hTm := mTp hm
  have hR := cRef hc
  obtain ⟨j, hj, hj2⟩ : ∃ j, σ.2.2.2.2 255 = j + 1 ∧ (j = 0 ∨ (j = 1 ∧ σ.2.2.2.2 0 = 2)) := by
    have hA := hR.1
    refine ⟨σ.2.2.2.2 255 - 1, ?_, ?_⟩ <;> omega
  have hlen : (aTP α).length ≤ 120 := hTo.1
  obtain ⟨b, x, c, g, m1, m2, m3, m4, m5⟩ := rest_N (j := j) (t := fun x => (aTP α).getD x 0) hTo.1 hTo.2 (aTP α).length 0 (by omega) (Nat.zero_le _)
  have hS : RS (fun x => (aTP α).getD x 0) (aTP α).length j 0 0 (sI (sI (sR σ 353 (j + 1)) 203 j 0) 352 0 0) := by
    refine ⟨?_, fun x hx => hTc.2 x hx, ⟨rfl, hj2⟩, sI_at _ _ _ _, ?_, Nat.zero_le _⟩
    · rw [sI_ne _ _ (by omega), sI_ne _ _ (by omega)]
      exact hTc.1
    · rw [sI_ne _ _ (by omega), sI_at]
      rfl
  obtain ⟨σ1, L1, i1, q1, q2, q3, q4⟩ := m3 0 0 256 _ (Nat.le_refl _) (Nat.le_refl _) (by omega) hS
  have eread : f_X7_read σ j = some (if b = true then -1 else nI x, σ1) := by
    unfold f_X7_read
    rw [derefL_e (σ := sR σ 353 (j + 1)) (j := j) (show (sR σ 353 (j + 1)).2.2.2.2 353 = j + 1 from rfl) hj2]
    unfold f_X4_clear
    rw [bnd1_e]
    exact q1
  have F1 : ∀ f o, f ≠ 351 → f ≠ 352 → ¬ (f = 203 ∧ o = j) → (sI σ1 351 0 0).1 f o = σ.1 f o := by
    intro f o h1 h2 h3
    rw [sI_ne _ _ (by omega), q3.2.2.1 f o h2 h3, sI_ne _ _ (by omega), sI_ne _ _ h3]
    rfl
  have F2 : ∀ f o, ¬ (f = 200 ∧ o = j) → (sI σ1 351 0 0).2.2.1 f o = σ.2.2.1 f o := fun f o h => q3.2.2.2 f o h
  have F3 : (sI σ1 351 0 0).2.2.2 = (sR σ 353 (j + 1)).2.2.2 := q3.2.1
  have F4 : (sI σ1 351 0 0).1 351 0 = 0 := sI_at _ _ _ _
  have F3a : (sI σ1 351 0 0).2.2.2.1 = σ.2.2.2.1 := by rw [F3]; rfl
  have F3b : (sI σ1 351 0 0).2.2.2.2 = (fun f => if f = 353 then j + 1 else σ.2.2.2.2 f) := by rw [F3]; rfl
  have hR2 : RefC (sI σ1 351 0 0).2.2.2.2 := by
    rw [F3b]
    exact refC_353 hR hj
  -- the model
  have h610 : τ.1 610 0 = nI (aTP α).length := hTm.1
  obtain ⟨v, τ1, w1, w2, w3, w4⟩ := m4 _ 256 0 0 (wS_ok (τ := τ) (p1 := -1) (Or.inl ⟨rfl, fun x hx => hTm.2 x hx⟩)) (by omega)
  obtain ⟨s1, s2⟩ := wS_fr τ (-1) (nI (aTP α).length)
  have G1 : ∀ f o, ¬ (613 ≤ f ∧ f ≤ 617) → τ1.1 f o = τ.1 f o := fun f o h => (w2.2 f o (by omega) (by omega) (by omega)).trans (s2 f o h)
  have G2 : τ1.2 = τ.2 := w2.1.trans s1
  have elaw : f_X12_law τ = if τ1.1 616 0 < 0 then f_X12_law_b37 256 (sI τ1 610 0 0) (nI (aTP α).length) 0 else some (-100 - τ1.1 616 0, sI τ1 610 0 0) := by
    unfold f_X12_law
    rw [h610, wS_e, w1, bnd2_e, bnd_e, G1 610 0 (by omega), h610, sI_ne τ1 (f := 610) (o := 0) (f' := 616) (o' := 0) 0 (by omega)]
  unfold f_X11_law
  cases b with
  | false =>
    have e616 : τ1.1 616 0 = nI x := w4 rfl
    refine ⟨-100 - nI x, sI σ1 351 0 0, sI τ1 610 0 0, ?_, ?_, uLT α (aLW α), okA_mono (okA_LT ho _), ?_, ?_⟩
    · rw [derefL_e hj hj2, eread, bnd2_e, bnd_e]
      exact if_neg (nI_n0 (by omega))
    · rw [elaw, e616]
      exact if_neg (nI_n0 (by omega))
    · refine absC_LT hc (fun f o h1 h2 h3 => F1 f o h1 h2 (fun z => h3 z.1)) (fun f o h1 h2 => F2 f o (by omega)) F3a F4 ?_ ?_ hR2
      · rw [F2 256 0 (by omega), F2 257 0 (by omega)]
        exact cache_cong rfl rfl rfl hc.2.2.1
      · cases hL : aLW α with
        | none =>
          show (sI σ1 351 0 0).2.2.2.2 254 = 0
          rw [F3b]
          exact lawC_none hc hL
        | some f =>
          obtain ⟨j0, z1, z2, z3⟩ := lawC_some hc hL
          have hne : j0 ≠ j := by
            have hA := hR.1
            omega
          refine ⟨j0, ?_, ?_⟩
          · rw [F3b]
            exact z1
          · rw [F2 200 j0 (by omega), F1 203 j0 (by omega) (by omega) (by omega)]
            exact z3
    · refine absM_LT hm (fun f o h1 h2 => ?_) (fun f o h => ?_) ?_ (sI_at _ _ _ _) (lawM_cong ?_ ?_ hm.2.2.1)
      · rw [sI_ne _ _ (by omega)]
        exact G1 f o (by omega)
      · show τ1.2.2.1 f o = _
        rw [G2]
      · show τ1.2.2.2 = _
        rw [G2]
      · show τ1.2.2.1 611 0 = _
        rw [G2]
      · rw [sI_ne _ _ (by omega)]
        exact G1 612 0 (by omega)
  | true =>
    obtain ⟨e616, _, _⟩ := w3 rfl
    obtain ⟨x1, x2, x3⟩ := q4 rfl
    have hcl : c.length ≤ 121 := by
      have := m2 rfl
      omega
    obtain ⟨σ3, e1, e2, e3, e4, e5, e6, e7⟩ := enact_e (σ := sI σ1 351 0 0) (j := j) hR2 (by rw [F3b]; exact hj) (by rw [F3b]; exact if_pos rfl)
    obtain ⟨F, c1, c2, c3⟩ := copy_M hlen (aTP α).length 0 256 (sI τ1 610 0 0) (by omega) (Nat.zero_le _) (by omega)
    refine ⟨1, σ3, sI (sA (sI τ1 610 0 0) 611 0 F) 612 0 (nI (aTP α).length), ?_, ?_, uLT α (some (fun a n e s h k => g (ev6 a n e s h k))), okA_mono (okA_LT ho _), ?_, ?_⟩
    · rw [derefL_e hj hj2, eread, bnd2_e, bnd_e]
      rw [if_pos (show (if true = true then (-1 : Int32) else nI x) < 0 by rw [if_pos rfl]; decide), e1, bnd1_e]
    · rw [elaw, e616, if_pos (show (-1 : Int32) < 0 by decide)]
      exact c1
    · refine absC_LT hc (fun f o h1 h2 h3 => ?_) (fun f o h1 h2 => ?_) (e5.trans F3a) ?_ (fun k s hk hs => Or.inl (e4 _ (by omega))) ⟨j, e7, ?_⟩ e6
      · rw [e2 f o (Or.inl h3)]
        exact F1 f o h1 h2 (fun z => h3 z.1)
      · rw [e3 f o h1 (by omega)]
        exact F2 f o (by omega)
      · rw [e2 351 0 (Or.inl (by decide))]
        exact F4
      · have h203 : σ3.1 203 j = nI c.length := by
          rw [e2 203 j (Or.inr rfl), sI_ne _ _ (by omega), q2.2.2.2.2.1, x1, Nat.zero_add]
        rw [h203]
        refine law_sem (m5 rfl) hcl (fun y hy => ?_)
        have := x2 y hy
        rw [Nat.zero_add] at this
        rw [e3 200 j (by decide) (by omega)]
        exact this
    · refine absM_LT hm (fun f o h1 h2 => ?_) (fun f o h => ?_) ?_ ?_ ⟨?_, ?_⟩
      · rw [sI_ne _ _ (by omega)]
        show (sI τ1 610 0 0).1 f o = _
        rw [sI_ne _ _ (by omega)]
        exact G1 f o (by omega)
      · show (if f = 611 ∧ o = 0 then F else τ1.2.2.1 f o) = _
        rw [if_neg (fun z => h z.1), G2]
      · show τ1.2.2.2 = _
        rw [G2]
      · rw [sI_ne _ _ (by omega)]
        exact sI_at τ1 610 0 0
      · rw [sI_at]
        exact nI_n0 (by omega)
      · rw [sI_at]
        intro τ2 h611
        have h611' : τ2.2.2.1 611 0 = F := h611.trans (sA_at _ _ _ _)
        obtain ⟨v2, τ3, u1, u2, u3, _⟩ := m4 _ 256 0 0 (wS_ok (τ := τ2) (p1 := 0) (Or.inr ⟨rfl, fun x hx => by
          rw [h611', c2 x (Nat.zero_le _) hx]
          show τ1.2.2.1 609 0 x = _
          rw [G2]
          exact hTm.2 x hx⟩)) (by omega)
        obtain ⟨t1, t2⟩ := wS_fr τ2 0 (nI (aTP α).length)
        refine ⟨(v2, τ3), (wS_e _ _ _).trans u1, ?_, fun f o h => (u2.2 f o (by omega) (by omega) (by omega)).trans (t2 f o h), u2.1.trans t1⟩
        have hv := (u3 rfl).2.1 rfl rfl
        rw [show (wS τ2 0 (nI (aTP α).length)).2.2.1 = τ2.2.2.1 from rfl, evN_6] at hv
        exact hv
