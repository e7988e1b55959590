theorem sA_self (σ : St) (f o : Nat) : sA σ f o (σ.2.2.1 f o) = σ := by
  have h : (fun f' o' => if f' = f ∧ o' = o then σ.2.2.1 f o else σ.2.2.1 f' o') = σ.2.2.1 := by
    funext a b
    by_cases h : a = f ∧ b = o
    · rw [if_pos h, h.1, h.2]
    · rw [if_neg h]
  unfold sA
  rw [h]
theorem sA_ext {σ σ' : St} (h1 : σ.1 = σ'.1) (h2 : σ.2.1 = σ'.2.1) (h3 : ∀ f o, σ.2.2.1 f o = σ'.2.2.1 f o) (h4 : σ.2.2.2 = σ'.2.2.2) : σ = σ' := by
  obtain ⟨a, b, c, d⟩ := σ
  obtain ⟨a', b', c', d'⟩ := σ'
  have h5 : c = c' := by funext f o; exact h3 f o
  cases h1
  cases h2
  cases h4
  cases h5
  rfl
/-- stores at 626, 627, and again: the last ones count -/
theorem sA_4 (τ : St) (a b c d : Nat → Int32) : sA (sA (sA (sA τ 626 0 a) 627 0 b) 626 0 c) 627 0 d = sA (sA τ 626 0 c) 627 0 d := by
  refine sA_ext rfl rfl (fun f o => ?_) rfl
  show (if f = 627 ∧ o = 0 then d else if f = 626 ∧ o = 0 then c else if f = 627 ∧ o = 0 then b else if f = 626 ∧ o = 0 then a else τ.2.2.1 f o) = (if f = 627 ∧ o = 0 then d else if f = 626 ∧ o = 0 then c else τ.2.2.1 f o)
  by_cases h1 : f = 627 ∧ o = 0
  · simp only [if_pos h1]
  · by_cases h2 : f = 626 ∧ o = 0
    · simp only [if_neg h1, if_pos h2]
    · simp only [if_neg h1, if_neg h2]
theorem mDe {α : Ab} {τ : St} (h : AbsM α τ) : DeedM (aD α) τ := h.2.2.2.2.2.1
theorem oDe {k : Nat} {α : Ab} (h : OkA k α) : OkD (aN α) k (aD α) := h.2.2.2.2.1
theorem neg1_n0 : ¬ (-1 : Int32) = 0 := by decide
theorem neg5_n0 : ¬ (-5 : Int32) = 0 := by decide
theorem neg1_lt : (-1 : Int32) < 0 := by decide
theorem neg1_nle : ¬ (0 : Int32) ≤ -1 := by decide
theorem nI_nm1 {n : Nat} (h : n < 2 ^ 31) : ¬ nI n = (-1 : Int32) := fun z => nI_n0 h (z ▸ neg1_lt)
theorem st27 (k : Nat) (hk : k < 512) : Step_27 (Rel k) (Rel (k + 1)) := by
  intro σ τ p hr
  obtain ⟨α, ho, hc, hm⟩ := hr
  have hR : Rel (k + 1) σ τ := ⟨α, okA_mono ho, hc, hm⟩
  have hl := (oNm ho).1
  have hw : f_X12_within p.toInt64 0 5 = some (tf (0 ≤ p ∧ p ≤ 5)) := w32 p 0 5
  have e65 : p < 6 ↔ p ≤ 5 := (le_pred (n := 6) (by omega)).symm
  unfold f_X11_noted f_X12_noted f_X11_refusedPlace
  rw [hw]
  by_cases h0 : p < 0
  · rw [tf_f (fun q => absurd q.1 (Int32.not_le.mpr h0))]
    simp only [if_pos h0, bnd1_e, bnd2_e, if_neg neg1_n0]
    exact ⟨_, _, _, rfl, rfl, hR⟩
  · by_cases h1 : p < 6
    · rw [tf_t ⟨Int32.not_lt.mp h0, e65.mp h1⟩]
      obtain ⟨j, hj, e⟩ := nI_of h0
      subst e
      have hj2 : j < 6 := (nI_ltI (b := 6) hj (by omega)).mp h1
      simp only [if_neg h0, if_pos h1, bnd1_e, if_neg one_n0]
      rw [(cDe hc).1, (mDe hm).1]
      rcases (oDe ho).1 with ⟨z, _⟩ | ⟨n, hn, z⟩
      · rw [z]
        simp only [if_neg neg1_nle, bnd2_e, if_neg neg5_n0]
        exact ⟨_, _, _, rfl, rfl, hR⟩
      · have h2 := ((oNm ho).2.1 n hn).2
        have hd := (cDe hc).2.2.2.2.2 (by rw [z]; exact nI_nm1 (by omega))
        have hd2 := (mDe hm).2.2.2.2 (by rw [z]; exact nI_nm1 (by omega))
        rw [z]
        simp only [if_pos (nI_0le (show n < 2 ^ 31 by omega)), chk_e (in_nI (show n < 10 by omega) (by omega))]
        simp only [nI_clamp (show n < 2 ^ 31 by omega), (hc.1.2 n hn).1, (hm.1.2 n hn).1]
        by_cases h3 : nI (nmL (aN α) n).length ≤ nI j
        · simp only [if_pos h3, bnd2_e, if_neg neg1_n0]
          exact ⟨_, _, _, rfl, rfl, hR⟩
        · simp only [if_neg h3, bnd2_e, if_pos True.intro]
          simp only [chk_e (in_nI hj2 (by omega))]
          simp only [nI_clamp hj, (hd.2 j hj2).1, (hd2.2.2 j hj2).2]
          have hb := (oDe ho).2.1 j
          by_cases h4 : (aD α).2.1 j = 0
          · have e4 : nI ((aD α).2.1 j) = 0 := by rw [h4]; rfl
            have e5 : ntd (aD α) j = -2 := if_pos h4
            rw [e5]
            simp only [if_pos e4]
            exact ⟨_, _, _, rfl, rfl, hR⟩
          · have e4 : ¬ nI ((aD α).2.1 j) = 0 := fun w => h4 ((nI_eq (b := 0) (by omega) (by omega)).mp w)
            have e5 : ntd (aD α) j = nI ((aD α).2.2.1 j) := if_neg h4
            rw [e5, (hd.2 j hj2).2 h4]
            simp only [if_neg e4]
            exact ⟨_, _, _, rfl, rfl, hR⟩
    · rw [tf_f (fun q => h1 (e65.mpr q.2))]
      simp only [if_neg h0, if_neg h1, bnd1_e, bnd2_e, if_neg neg1_n0]
      exact ⟨_, _, _, rfl, rfl, hR⟩
theorem call_loop (n : Nat) (hn : n < 10) : ∀ (m i f : Nat) (τ : St), i + m = 6 → m < f → ∃ F G, f_X12_call_b37 f τ (nI n) (nI i) = some (τ.2.2.1 607 0 n, sA (sA τ 626 0 F) 627 0 G) ∧ (∀ j, i ≤ j → j < 6 → F j = 0 ∧ G j = -2) ∧ ∀ j, j < i → F j = τ.2.2.1 626 0 j ∧ G j = τ.2.2.1 627 0 j := by
  intro m
  induction m with
  | zero =>
    intro i f τ hi hf
    obtain ⟨g, rfl⟩ : ∃ g, f = g + 1 := ⟨f - 1, by omega⟩
    have h6 : i = 6 := by omega
    subst h6
    refine ⟨τ.2.2.1 626 0, τ.2.2.1 627 0, ?_, fun j h1 h2 => absurd h1 (by omega), fun j _ => ⟨rfl, rfl⟩⟩
    rw [f_X12_call_b37, if_pos (show (6 : Int32) ≤ nI 6 from nI_le (a := 6) (b := 6) (by omega) (by omega)), chk_e (in_nI hn (by omega)), nI_clamp (by omega)]
    have e : sA (sA τ 626 0 (τ.2.2.1 626 0)) 627 0 (τ.2.2.1 627 0) = τ := by
      rw [sA_self, sA_self]
    rw [e]
  | succ m ih =>
    intro i f τ hi hf
    obtain ⟨g, rfl⟩ : ∃ g, f = g + 1 := ⟨f - 1, by omega⟩
    have hi6 : i < 6 := by omega
    have hn6 : ¬ (6 : Int32) ≤ nI i := Int32.not_le.mpr (nI_lt (b := 6) hi6 (by omega))
    rw [f_X12_call_b37, if_neg hn6]
    simp only [chk_e (in_nI hi6 (by omega)), bnd_e]
    rw [nI_clamp (by omega)]
    have e1 : nI i + 1 = nI (i + 1) := nI_add i 1
    rw [e1]
    obtain ⟨F, G, h1, h2, h3⟩ := ih (i + 1) g (sA (sA τ 626 0 (upd (τ.2.2.1 626 0) i 0)) 627 0 (upd ((sA τ 626 0 (upd (τ.2.2.1 626 0) i 0)).2.2.1 627 0) i (-2))) (by omega) (by omega)
    refine ⟨F, G, ?_, ?_, ?_⟩
    · rw [h1, sA_4]
      rfl
    · intro j hj hj6
      by_cases hji : j = i
      · subst hji
        have h4 := h3 j (by omega)
        refine ⟨h4.1.trans ?_, h4.2.trans ?_⟩
        · show upd (τ.2.2.1 626 0) j 0 j = 0
          rw [pk_us]
        · show upd (τ.2.2.1 627 0) j (-2) j = -2
          rw [pk_us]
      · exact h2 j (by omega) hj6
    · intro j hj
      have h4 := h3 j (by omega)
      refine ⟨h4.1.trans ?_, h4.2.trans ?_⟩
      · show upd (τ.2.2.1 626 0) i 0 j = _
        rw [pk_un (by omega)]
      · show upd (τ.2.2.1 627 0) i (-2) j = _
        rw [pk_un (by omega)]
theorem okA_D {k : Nat} {α : Ab} {d : DD} (h : OkA k α) (hd : OkD (aN α) k d) : OkA k (uD α d) := ⟨h.1, h.2.1, h.2.2.1, h.2.2.2.1, hd, h.2.2.2.2.2⟩
theorem st25 (k : Nat) : Step_25 (Rel k) (Rel (k + 1)) := by
  intro σ τ p q hr
  obtain ⟨α, ho, hc, hm⟩ := hr
  have hR : Rel (k + 1) σ τ := ⟨α, okA_mono ho, hc, hm⟩
  have hl := (oNm ho).1
  unfold f_X11_call f_X12_call
  rw [e_X6_has, e_X12_isName (by omega) hm.1.1, hc.1.1]
  simp only [bnd2_e]
  rcases rngN p (n := (aN α).length) (by omega) with ⟨n, hn, e⟩ | h
  · subst e
    rw [tf_t (rngT hn (by omega)), (cDe hc).1, (mDe hm).1]
    simp only [if_neg one_n0]
    rcases (oDe ho).1 with ⟨z, z2⟩ | ⟨n2, hn2, z⟩
    · rw [z]
      simp only [if_pos neg1_lt]
      obtain ⟨F, G, h1, h2, _⟩ := call_loop n (by omega) 6 0 256 (sI (sI (sI τ 623 0 (nI n)) 624 0 q) 625 0 0) (by omega) (by omega)
      have c1 : ¬ (nI n < 0 ∨ 10 ≤ (nI n).toNatClampNeg) := in_nI (by omega) (by omega)
      have e56 : σ.1 56 0 = 0 := (cDe hc).2.1.trans z2
      have hS : ∀ S : St, chk (nI n < 0 ∨ 10 ≤ (nI n).toNatClampNeg) (some (S.2.2.1 301 0 (nI n).toNatClampNeg, S)) = some (S.2.2.1 301 0 n, S) := by
        intro S
        rw [chk_e c1, nI_clamp (by omega)]
      have hA : σ.2.2.1 301 0 n = τ.2.2.1 607 0 n := (hc.1.2 n hn).1.trans (hm.1.2 n hn).1.symm
      refine ⟨τ.2.2.1 607 0 n, _, _, (hS (sA (sI (sI σ 52 0 (nI n)) 57 0 q) 50 0 (fillA ((sI (sI σ 52 0 (nI n)) 57 0 q).2.2.1 50 0) 6 0))).trans (congrArg (fun x => some (x, sA (sI (sI σ 52 0 (nI n)) 57 0 q) 50 0 (fillA ((sI (sI σ 52 0 (nI n)) 57 0 q).2.2.1 50 0) 6 0))) hA), h1, ?_⟩
      refine ⟨uD α (nI n, fun _ => 0, (aD α).2.2.1, q, 0, (aD α).2.2.2.2.2), okA_mono (okA_D ho ⟨Or.inr ⟨n, hn, rfl⟩, fun i => Nat.zero_le k, (oDe ho).2.2⟩), ?_, ?_⟩
      · exact ⟨hc.1, hc.2.1, cache_cong rfl rfl rfl hc.2.2.1, law_cong rfl (fun _ => rfl) (fun _ => rfl) hc.2.2.2.1, hc.2.2.2.2.1, hc.2.2.2.2.2.1, hc.2.2.2.2.2.2.1, ⟨rfl, e56, (cDe hc).2.2.1, (cDe hc).2.2.2.1, (cDe hc).2.2.2.2.1, fun _ => ⟨rfl, fun i hi => ⟨if_pos hi, fun y => absurd rfl y⟩⟩⟩, hc.2.2.2.2.2.2.2.2⟩
      · exact ⟨hm.1, hm.2.1, lawM_cong rfl rfl hm.2.2.1, hm.2.2.2.1, hm.2.2.2.2.1, ⟨rfl, (mDe hm).2.1, (mDe hm).2.2.1, (mDe hm).2.2.2.1, fun _ => ⟨rfl, rfl, fun i hi => ⟨(h2 i (Nat.zero_le i) hi).1, (h2 i (Nat.zero_le i) hi).2⟩⟩⟩, hm.2.2.2.2.2.2⟩
    · rw [z]
      simp only [if_neg (nI_n0 (show n2 < 2 ^ 31 by omega))]
      exact ⟨_, _, _, rfl, rfl, hR⟩
  · rw [tf_f h]
    exact ⟨_, _, _, rfl, rfl, hR⟩
