/-! getting at the parts -/
theorem oNm {k : Nat} {α : Ab} (h : OkA k α) : OkN (aN α) (aK α) := h.1
theorem oTp {k : Nat} {α : Ab} (h : OkA k α) : OkT (aTP α) := h.2.2.1
theorem oSp {k : Nat} {α : Ab} (h : OkA k α) : OkB (aBK α) (aRN α) := h.2.2.2.2.2.2.1
theorem cTp {α : Ab} {σ : St} (h : AbsC α σ) : TapeP (aTP α) (σ.1 351 0) (σ.2.2.1 350 0) := h.2.2.2.2.2.1
theorem cCh {α : Ab} {σ : St} (h : AbsC α σ) : ChgC (aCH α) (aDN α) (σ.2.2.1 0 0) (σ.2.2.1 1 0) (σ.2.2.1 2 0) (σ.2.2.1 3 0) (σ.1 4 0) (σ.1 5 0) (σ.1 6 0) := h.2.2.2.2.2.2.1
theorem cDe {α : Ab} {σ : St} (h : AbsC α σ) : DeedC (aD α) σ 0 := h.2.2.2.2.2.2.2.1
theorem cSp {α : Ab} {σ : St} (h : AbsC α σ) : SpellP (aBK α) (aRN α) (aTR α) (σ.1 502 0) (σ.2.2.1 500 0) (σ.1 503 0) (σ.2.2.1 501 0) := h.2.2.2.2.2.2.2.2.2.1
theorem mTp {α : Ab} {τ : St} (h : AbsM α τ) : TapeP (aTP α) (τ.1 610 0) (τ.2.2.1 609 0) := h.2.2.2.1
theorem mCh {α : Ab} {τ : St} (h : AbsM α τ) : ChgM (aCH α) (aDN α) (τ.2.2.1 601 0) (τ.2.2.1 602 0) (τ.2.2.1 603 0) (τ.1 604 0) (τ.1 605 0) := h.2.2.2.2.1
theorem mSp {α : Ab} {τ : St} (h : AbsM α τ) : SpellP (aBK α) (aRN α) (aTR α) (τ.1 633 0) (τ.2.2.1 634 0) (τ.1 636 0) (τ.2.2.1 635 0) := h.2.2.2.2.2.2.2.1
/-! a number that lies in a range -/
theorem rngN (p : Int32) {n : Nat} (hn : n ≤ 1000000) : (∃ j, j < n ∧ p = nI j) ∨ ¬ (0 ≤ p ∧ p < nI n) := by
  by_cases h : 0 ≤ p ∧ p < nI n
  · obtain ⟨j, hj, e⟩ := nI_of (Int32.not_lt.mpr h.1)
    have h2 := h.2
    rw [e] at h2
    exact Or.inl ⟨j, (nI_ltI hj (by omega)).mp h2, e⟩
  · exact Or.inr h
theorem nI_0le {j : Nat} (h : j < 2 ^ 31) : (0 : Int32) ≤ nI j := nI_le (a := 0) (Nat.zero_le j) h
theorem nI_n0 {j : Nat} (h : j < 2 ^ 31) : ¬ nI j < (0 : Int32) := Int32.not_lt.mpr (nI_0le h)
theorem rngT {j n : Nat} (h : j < n) (hn : n ≤ 1000000) : (0 : Int32) ≤ nI j ∧ nI j < nI n := ⟨nI_0le (by omega), nI_lt h (by omega)⟩
theorem le_pred {p : Int32} {n : Nat} (hn : n ≤ 1000000) : p ≤ nI n - 1 ↔ p < nI n := by
  have e : (nI n - 1).toInt = (nI n).toInt - 1 := by
    rw [Int32.toInt_sub]
    have h1 : (nI n).toInt = (n : Int) := Int32.toInt_ofNat_of_lt (by omega)
    rw [h1]
    show Int.bmod ((n : Int) - 1) (2 ^ 32) = (n : Int) - 1
    exact Int.bmod_eq_of_le (by omega) (by omega)
  rw [fa_le, fa_lt, e]
  omega
/-! is it there: closed forms -/
theorem has_if (c : Int32) (p : Int32) (σ : St) : (if p < 0 then some ((0 : Int32), σ) else (if c ≤ p then some ((0 : Int32), σ) else some ((1 : Int32), σ))) = some (tf (0 ≤ p ∧ p < c), σ) := by
  by_cases h : p < 0
  · rw [if_pos h, tf_f (fun q => absurd q.1 (Int32.not_le.mpr h))]
  · rw [if_neg h]
    by_cases h2 : c ≤ p
    · rw [if_pos h2, tf_f (fun q => absurd q.2 (Int32.not_lt.mpr h2))]
    · rw [if_neg h2, tf_t ⟨Int32.not_lt.mp h, Int32.not_le.mp h2⟩]
theorem e_X6_has (σ : St) (p : Int32) : f_X6_has σ p = some (tf (0 ≤ p ∧ p < σ.1 303 0), σ) := by
  unfold f_X6_has f_X6_has0
  rw [has_if, chkB_tf]
theorem e_X10_has (σ : St) (p : Int32) : f_X10_has σ p = some (tf (0 ≤ p ∧ p < σ.1 502 0), σ) := by
  unfold f_X10_has f_X10_has0
  rw [has_if, chkB_tf]
theorem within_n (p : Int32) {n : Nat} (hn : n ≤ 1000000) : f_X12_within ((p : Int32).toInt64) (0 : Int64) (((nI n - 1 : Int32)).toInt64) = some (tf (0 ≤ p ∧ p < nI n)) := by
  rw [e_X12_within]
  congr 1
  exact tf_iff (and_congr (fa_wide_le 0 p) ((fa_wide_le p (nI n - 1)).trans (le_pred hn)))
theorem e_X12_isName {τ : St} {n : Nat} (hn : n ≤ 1000000) (e : τ.1 606 0 = nI n) (p : Int32) : f_X12_isName τ p = some (tf (0 ≤ p ∧ p < nI n), τ) := by
  unfold f_X12_isName f_X12_isName0
  rw [e, within_n p hn, bnd1_e, chkB_tf]
theorem e_X12_isBody {τ : St} {n : Nat} (hn : n ≤ 1000000) (e : τ.1 633 0 = nI n) (p : Int32) : f_X12_isBody τ p = some (tf (0 ≤ p ∧ p < nI n), τ) := by
  unfold f_X12_isBody f_X12_isBody0
  rw [e, within_n p hn, bnd1_e, chkB_tf]
theorem st43 (k : Nat) : Step_43 (Rel k) (Rel (k + 1)) := by
  intro σ τ p hr
  obtain ⟨α, ho, hc, hm⟩ := hr
  have hR : Rel (k + 1) σ τ := ⟨α, okA_mono ho, hc, hm⟩
  have e0 : σ.1 303 0 = τ.1 606 0 := hc.1.1.trans hm.1.1.symm
  have e1 : σ.1 351 0 = τ.1 610 0 := (cTp hc).1.trans (mTp hm).1.symm
  have e2 : σ.1 4 0 = τ.1 605 0 := (cCh hc).1.trans (mCh hm).1.symm
  have e3 : σ.1 502 0 = τ.1 633 0 := (cSp hc).1.trans (mSp hm).1.symm
  have e4 : σ.1 503 0 = τ.1 636 0 := (cSp hc).2.2.1.trans (mSp hm).2.2.1.symm
  unfold f_X11_count f_X12_count
  rw [e0, e1, e2, e3, e4]
  by_cases h0 : p = 0
  · simp only [if_pos h0]; exact ⟨_, _, _, rfl, rfl, hR⟩
  · simp only [if_neg h0]
    by_cases h1 : p = 1
    · simp only [if_pos h1]; exact ⟨_, _, _, rfl, rfl, hR⟩
    · simp only [if_neg h1]
      by_cases h2 : p = 2
      · simp only [if_pos h2]; exact ⟨_, _, _, rfl, rfl, hR⟩
      · simp only [if_neg h2]
        by_cases h3 : p = 3
        · simp only [if_pos h3]; exact ⟨_, _, _, rfl, rfl, hR⟩
        · simp only [if_neg h3]
          by_cases h4 : p = 4
          · simp only [if_pos h4]; exact ⟨_, _, _, rfl, rfl, hR⟩
          · simp only [if_neg h4]; exact ⟨_, _, _, rfl, rfl, hR⟩
theorem st36 (k : Nat) : Step_36 (Rel k) (Rel (k + 1)) := by
  intro σ τ p hr
  obtain ⟨α, ho, hc, hm⟩ := hr
  have hR : Rel (k + 1) σ τ := ⟨α, okA_mono ho, hc, hm⟩
  have e4 : σ.1 503 0 = nI (aRN α) := (cSp hc).2.2.1
  have e5 : τ.1 636 0 = nI (aRN α) := (mSp hm).2.2.1
  have hrn : aRN α ≤ 100 := (oSp ho).2.2
  unfold f_X11_trace f_X12_trace
  rw [e4, e5]
  by_cases h0 : p < 0
  · simp only [if_pos h0]; exact ⟨_, _, _, rfl, rfl, hR⟩
  · simp only [if_neg h0]
    by_cases h1 : nI (aRN α) ≤ p
    · simp only [if_pos h1]; exact ⟨_, _, _, rfl, rfl, hR⟩
    · simp only [if_neg h1]
      by_cases h2 : (24 : Int32) ≤ p
      · simp only [if_pos h2]; exact ⟨_, _, _, rfl, rfl, hR⟩
      · simp only [if_neg h2]
        obtain ⟨j, hj, e⟩ := nI_of h0
        subst e
        have hj1 : j < aRN α := (nI_ltI hj (by omega)).mp (Int32.not_le.mp h1)
        have hj2 : j < 24 := (nI_ltI hj (by omega)).mp (Int32.not_le.mp h2)
        simp only [chk_e (in_nI hj2 (by omega))]
        simp only [nI_clamp hj, (cSp hc).2.2.2 j hj1 hj2, (mSp hm).2.2.2 j hj1 hj2]
        exact ⟨_, _, _, rfl, rfl, hR⟩
theorem six_c {n i : Nat} : nI n * (6 : Int32) + nI i = nI (6 * n + i) := by
  have h : nI n * (6 : Int32) = nI (n * 6) := (Int32.ofNat_mul n 6).symm
  rw [h, nI_add, Nat.mul_comm]
theorem six_m {n i : Nat} : (6 : Int32) * nI n + nI i = nI (6 * n + i) := by
  have h : (6 : Int32) * nI n = nI (6 * n) := (Int32.ofNat_mul 6 n).symm
  rw [h, nI_add]
theorem e_X6_at {α : Ab} {σ : St} {k : Nat} (ho : OkA k α) (hc : AbsC α σ) {n i : Nat} (hn : n < (aN α).length) (hi : i < (nmL (aN α) n).length) : f_X6_at σ (nI n) (nI i) = some (nI (ltr (aN α) n i), σ) := by
  have h1 := (oNm ho).1
  have h2 := ((oNm ho).2.1 n hn).2
  unfold f_X6_at
  rw [six_c, chk_e (in_nI (by omega) (by omega)), nI_clamp (by omega), (hc.1.2 n hn).2.2 i hi]
theorem e_X12_at1 {α : Ab} {τ : St} {k : Nat} (ho : OkA k α) (hm : AbsM α τ) {n i : Nat} (hn : n < (aN α).length) (hi : i < (nmL (aN α) n).length) : f_X12_at1 τ (nI n) (nI i) = some (nI (ltr (aN α) n i), τ) := by
  have h1 := (oNm ho).1
  have h2 := ((oNm ho).2.1 n hn).2
  unfold f_X12_at1
  rw [six_m, chk_e (in_nI (by omega) (by omega)), nI_clamp (by omega), (hm.1.2 n hn).2.2 i hi]
theorem st3 (k : Nat) : Step_3 (Rel k) (Rel (k + 1)) := by
  intro σ τ p q hr
  obtain ⟨α, ho, hc, hm⟩ := hr
  have hR : Rel (k + 1) σ τ := ⟨α, okA_mono ho, hc, hm⟩
  have hl := (oNm ho).1
  unfold f_X11_letter f_X12_letter
  rw [e_X6_has, e_X12_isName (by omega) hm.1.1, hc.1.1]
  simp only [bnd2_e]
  rcases rngN p (n := (aN α).length) (by omega) with ⟨n, hn, e⟩ | h
  · subst e
    have h2 := ((oNm ho).2.1 n hn).2
    rw [tf_t (rngT hn (by omega))]
    simp only [if_neg (show ¬ (1 : Int32) = 0 by decide)]
    by_cases hq : 0 ≤ q
    · simp only [if_pos hq, chk_e (in_nI (show n < 10 by omega) (by omega))]
      simp only [nI_clamp (show n < 2 ^ 31 by omega), (hc.1.2 n hn).1, (hm.1.2 n hn).1]
      by_cases h3 : nI (nmL (aN α) n).length ≤ q
      · simp only [if_pos h3]; exact ⟨_, _, _, rfl, rfl, hR⟩
      · simp only [if_neg h3]
        obtain ⟨i, hi, e⟩ := nI_of (Int32.not_lt.mpr hq)
        subst e
        have hi1 : i < (nmL (aN α) n).length := (nI_ltI hi (by omega)).mp (Int32.not_le.mp h3)
        rw [e_X6_at ho hc hn hi1, e_X12_at1 ho hm hn hi1]
        exact ⟨_, _, _, rfl, rfl, hR⟩
    · simp only [if_neg hq]; exact ⟨_, _, _, rfl, rfl, hR⟩
  · rw [tf_f h]
    exact ⟨_, _, _, rfl, rfl, hR⟩
