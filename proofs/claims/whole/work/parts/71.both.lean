/-! what class and model ask alike -/
theorem cSh {α : Ab} {σ : St} (h : AbsC α σ) : ShelfC (aSH α) σ := h.2.2.2.2.2.2.2.2.2.2
theorem mSh {α : Ab} {τ : St} (h : AbsM α τ) : ShelfM (aSH α) (τ.2.2.1 639 0) (τ.2.2.1 640 0) (τ.2.2.2.1 641 0) := h.2.2.2.2.2.2.2.2
theorem oSh {k : Nat} {α : Ab} (h : OkA k α) : OkS (aBK α).length (aSH α) := h.2.2.2.2.2.2.2
theorem ite_tf {p q : Prop} [Decidable p] [Decidable q] (h : p ↔ q) (σ : St) : (if p then some ((1 : Int32), σ) else some ((0 : Int32), σ)) = some (tf q, σ) := by
  by_cases hp : p
  · rw [if_pos hp, tf_t (h.mp hp)]
  · rw [if_neg hp, tf_f (fun z => hp (h.mpr z))]
theorem nI_lit_ne {n m : Nat} (h : n ≠ m) (hn : n < 2 ^ 31) (hm : m < 2 ^ 31) : ¬ nI n = nI m := fun z => h ((nI_eq hn hm).mp z)
theorem sh3 {k : Nat} {α : Ab} (ho : OkA k α) {d : Nat} (hd : d < 6) : (aSH α d).1 = 0 ∨ (1 ≤ (aSH α d).1 ∧ (aSH α d).1 ≤ (aBK α).length ∧ (aSH α d).1 ≤ 50) ∨ (51 ≤ (aSH α d).1 ∧ (aSH α d).1 ≤ 55 ∧ (aSH α d).2.1 ≤ 60) := by
  have h1 := (oSp ho).1
  rcases oSh ho d hd with z | z | z
  · exact Or.inl z
  · exact Or.inr (Or.inl ⟨z.1, z.2, by omega⟩)
  · exact Or.inr (Or.inr z)
theorem isEmpty_C {k : Nat} {α : Ab} {σ : St} (ho : OkA k α) (hc : AbsC α σ) {d : Nat} (hd : d < 6) : f_X8_isEmpty σ d = some (tf ((aSH α d).1 = 0), σ) := by
  have hs := cSh hc d hd
  have h : f_X8_isEmpty0 σ d = some (tf ((aSH α d).1 = 0), σ) := by
    unfold f_X8_isEmpty0
    refine ite_tf ?_ σ
    rcases sh3 ho hd with z | z | z
    · exact ⟨fun _ => z, fun _ => hs.1 z⟩
    · rw [hs.2.1 ⟨z.1, z.2.2⟩]
      exact ⟨fun q => absurd q (nI_nm1 (by omega)), fun q => absurd q (by omega)⟩
    · rw [(hs.2.2 z.1).1]
      exact ⟨fun q => absurd q (by decide), fun q => absurd q (by omega)⟩
  unfold f_X8_isEmpty
  rw [h, chkB_tf]
theorem isRow_C {k : Nat} {α : Ab} {σ : St} (ho : OkA k α) (hc : AbsC α σ) {d : Nat} (hd : d < 6) : f_X8_isRow σ d = some (tf (51 ≤ (aSH α d).1), σ) := by
  have hs := cSh hc d hd
  have h : f_X8_isRow0 σ d = some (tf (51 ≤ (aSH α d).1), σ) := by
    unfold f_X8_isRow0
    refine ite_tf ?_ σ
    rcases sh3 ho hd with z | z | z
    · rw [hs.1 z]
      exact ⟨fun q => absurd q (by decide), fun q => absurd q (by omega)⟩
    · rw [hs.2.1 ⟨z.1, z.2.2⟩]
      exact ⟨fun q => absurd q.symm (nI_nm2 (by omega)), fun q => absurd q (by omega)⟩
    · rw [(hs.2.2 z.1).1]
      exact ⟨fun _ => z.1, fun _ => rfl⟩
  unfold f_X8_isRow
  rw [h, chkB_tf]
/-- what SHELF d holds, as the model has it -/
theorem sh_M {k : Nat} {α : Ab} {τ : St} (ho : OkA k α) (hm : AbsM α τ) {d : Nat} (hd : d < 6) : τ.2.2.1 639 0 d = if (aSH α d).1 = 0 then -1 else nI ((aSH α d).1 - 1) := by
  have hs := mSh hm d hd
  by_cases h : (aSH α d).1 = 0
  · rw [if_pos h]; exact hs.1 h
  · rw [if_neg h]; exact hs.2.1 (by omega)
theorem shelf_both (p : Int32) : (∃ d, d < 6 ∧ p = nI d ∧ f_X11_shelfThere p = some 1 ∧ f_X12_isShelf p = some 1) ∨ (f_X11_shelfThere p = some 0 ∧ f_X12_isShelf p = some 0) := by
  rw [e_X11_shelfThere, e_X12_isShelf]
  by_cases h : 0 ≤ p ∧ p ≤ 5
  · obtain ⟨j, hj, e⟩ := rng_of (n := 5) (by omega) h
    rw [tf_t h]
    exact Or.inl ⟨j, by omega, e, rfl, rfl⟩
  · rw [tf_f h]
    exact Or.inr ⟨rfl, rfl⟩
theorem bytes_both {k : Nat} {α : Ab} {σ τ : St} (ho : OkA k α) (hc : AbsC α σ) (hm : AbsM α τ) (p : Int32) : (∃ d, d < 6 ∧ p = nI d ∧ (aSH α d).1 = 51 ∧ f_X11_refusedBytes σ p = some (0, σ) ∧ f_X12_bytesIs τ p = some (1, τ)) ∨ (∃ r : Int32, (r = -1 ∨ r = -11 ∨ r = -12) ∧ f_X11_refusedBytes σ p = some (r, σ) ∧ f_X12_bytesIs τ p = some (r, τ)) := by
  unfold f_X11_refusedBytes f_X12_bytesIs
  rcases shelf_both p with ⟨d, hd, e, h1, h2⟩ | ⟨h1, h2⟩
  · rw [h1, h2, bnd1_e, bnd1_e, if_neg one_n0, if_neg one_n0]
    subst e
    rw [chk_in hd (by omega), chk_in hd (by omega), nI_clamp (by omega), isEmpty_C ho hc hd, bnd2_e, sh_M ho hm hd]
    by_cases t0 : (aSH α d).1 = 0
    · rw [tf_t t0, if_neg one_n0, if_pos t0, if_neg neg1_nle]
      exact Or.inr ⟨-11, Or.inr (Or.inl rfl), rfl, rfl⟩
    · have hb : (aSH α d).1 ≤ 55 := by rcases sh3 ho hd with z | z | z <;> omega
      rw [tf_f t0, if_pos rfl, if_neg t0, if_pos (nI_0le (by omega)), chk_i2 hd (by omega), chk_i2 hd (by omega), isRow_C ho hc hd, bnd2_e]
      by_cases t1 : 51 ≤ (aSH α d).1
      · have hs := (cSh hc d hd).2.2 t1
        rw [tf_t t1, if_neg one_n0, chk_i2 hd (by omega), hs.2.1]
        by_cases t2 : (aSH α d).1 = 51
        · rw [if_pos (show nI ((aSH α d).1 - 51) = 0 by rw [t2]; rfl), if_pos (show nI ((aSH α d).1 - 1) = 50 by rw [t2]; rfl)]
          exact Or.inl ⟨d, hd, rfl, t2, rfl, rfl⟩
        · rw [if_neg (show ¬ nI ((aSH α d).1 - 51) = 0 from nI_lit_ne (m := 0) (by omega) (by omega) (by omega)), if_neg (show ¬ nI ((aSH α d).1 - 1) = 50 from nI_lit_ne (m := 50) (by omega) (by omega) (by omega))]
          exact Or.inr ⟨-12, Or.inr (Or.inr rfl), rfl, rfl⟩
      · rw [tf_f t1, if_pos rfl, if_neg (show ¬ nI ((aSH α d).1 - 1) = 50 from nI_lit_ne (m := 50) (by omega) (by omega) (by omega))]
        exact Or.inr ⟨-12, Or.inr (Or.inr rfl), rfl, rfl⟩
  · rw [h1, h2, bnd1_e, bnd1_e, if_pos rfl, if_pos rfl]
    exact Or.inr ⟨-1, Or.inl rfl, rfl, rfl⟩
theorem name_both {k : Nat} {α : Ab} {σ τ : St} (ho : OkA k α) (hc : AbsC α σ) (hm : AbsM α τ) (p : Int32) : (∃ n, n < (aN α).length ∧ n < 10 ∧ p = nI n ∧ f_X6_has σ p = some (1, σ) ∧ f_X12_isName τ p = some (1, τ)) ∨ (f_X6_has σ p = some (0, σ) ∧ f_X12_isName τ p = some (0, τ)) := by
  have hl := (oNm ho).1
  rw [e_X6_has, e_X12_isName (by omega) hm.1.1, hc.1.1]
  rcases rngN p (n := (aN α).length) (by omega) with ⟨n, hn, e⟩ | h
  · subst e
    rw [tf_t (rngT hn (by omega))]
    exact Or.inl ⟨n, hn, by omega, rfl, rfl, rfl⟩
  · rw [tf_f h]
    exact Or.inr ⟨rfl, rfl⟩
theorem body_both {k : Nat} {α : Ab} {σ τ : St} (ho : OkA k α) (hc : AbsC α σ) (hm : AbsM α τ) (p : Int32) : (∃ n, n < (aBK α).length ∧ n < 50 ∧ p = nI n ∧ f_X10_has σ p = some (1, σ) ∧ f_X12_isBody τ p = some (1, τ)) ∨ (f_X10_has σ p = some (0, σ) ∧ f_X12_isBody τ p = some (0, τ)) := by
  have hl := (oSp ho).1
  rw [e_X10_has, e_X12_isBody (by omega) (mSp hm).1, (cSp hc).1]
  rcases rngN p (n := (aBK α).length) (by omega) with ⟨n, hn, e⟩ | h
  · subst e
    rw [tf_t (rngT hn (by omega))]
    exact Or.inl ⟨n, hn, by omega, rfl, rfl, rfl⟩
  · rw [tf_f h]
    exact Or.inr ⟨rfl, rfl⟩
theorem part_both (p : Int32) : (∃ j, j < 2 ∧ p = nI j ∧ f_X11_fractionPart p = some 1 ∧ f_X12_within p.toInt64 0 1 = some 1) ∨ (f_X11_fractionPart p = some 0 ∧ f_X12_within p.toInt64 0 1 = some 0) := by
  rw [e_X11_fractionPart, show f_X12_within p.toInt64 0 1 = some (tf (0 ≤ p ∧ p ≤ 1)) from w32 p 0 1]
  by_cases h : 0 ≤ p ∧ p ≤ 1
  · obtain ⟨j, hj, e⟩ := rng_of (n := 1) (by omega) h
    rw [tf_t h, tf_t (show p = 0 ∨ p = 1 by
      rcases (show j = 0 ∨ j = 1 by omega) with q | q
      · subst q; exact Or.inl e
      · subst q; exact Or.inr e)]
    exact Or.inl ⟨j, by omega, e, rfl, rfl⟩
  · rw [tf_f h, tf_f (show ¬ (p = 0 ∨ p = 1) by
      intro q
      rcases q with q | q
      · subst q; exact h (by decide)
      · subst q; exact h (by decide))]
    exact Or.inr ⟨rfl, rfl⟩
theorem e_X11_ofTwelve (x : Int32) : f_X11_ofTwelve x = some (tf (0 ≤ x ∧ x ≤ 11)) := by
  have h : f_X11_ofTwelve0 x = some (tf (0 ≤ x ∧ x ≤ 11)) := by
    have e6 : (12 : Int32) ≤ x ↔ ¬ x ≤ 11 := by
      rw [fa_le, fa_le]
      show (12 : Int) ≤ x.toInt ↔ ¬ x.toInt ≤ (11 : Int)
      omega
    unfold f_X11_ofTwelve0
    by_cases h1 : x < 0
    · rw [if_pos h1, tf_f (fun q => absurd q.1 (Int32.not_le.mpr h1))]
    · rw [if_neg h1]
      by_cases h2 : (12 : Int32) ≤ x
      · rw [if_pos h2, tf_f (fun q => (e6.mp h2) q.2)]
      · rw [if_neg h2, tf_t ⟨Int32.not_lt.mp h1, by
          by_cases h3 : x ≤ 11
          · exact h3
          · exact absurd (e6.mpr h3) h2⟩]
  unfold f_X11_ofTwelve
  rw [h, chkB1_tf]
theorem twelve_both (p : Int32) : (∃ j, j < 12 ∧ p = nI j ∧ f_X11_ofTwelve p = some 1 ∧ f_X12_within p.toInt64 0 11 = some 1) ∨ (f_X11_ofTwelve p = some 0 ∧ f_X12_within p.toInt64 0 11 = some 0) := by
  rw [e_X11_ofTwelve, show f_X12_within p.toInt64 0 11 = some (tf (0 ≤ p ∧ p ≤ 11)) from w32 p 0 11]
  by_cases h : 0 ≤ p ∧ p ≤ 11
  · obtain ⟨j, hj, e⟩ := rng_of (n := 11) (by omega) h
    rw [tf_t h]
    exact Or.inl ⟨j, by omega, e, rfl, rfl⟩
  · rw [tf_f h]
    exact Or.inr ⟨rfl, rfl⟩
theorem letter_iff (x : Int32) : f_X12_isLetter x.toInt64 = some (tf (0 ≤ x ∧ x ≤ 11)) := by
  rw [e_X12_isLetter]
  congr 1
  exact tf_iff (and_congr (fa_wide_le 0 x) (fa_wide_le x 11))
theorem letter_both (p : Int32) : (∃ j, j < 12 ∧ p = nI j ∧ f_X11_isLetter p.toInt64 = some 1 ∧ f_X12_isLetter p.toInt64 = some 1) ∨ (f_X11_isLetter p.toInt64 = some 0 ∧ f_X12_isLetter p.toInt64 = some 0) := by
  rw [e_letter, letter_iff]
  by_cases h : 0 ≤ p ∧ p ≤ 11
  · obtain ⟨j, hj, e⟩ := rng_of (n := 11) (by omega) h
    rw [tf_t h]
    exact Or.inl ⟨j, by omega, e, rfl, rfl⟩
  · rw [tf_f h]
    exact Or.inr ⟨rfl, rfl⟩
theorem div_lit {n d : Nat} (hn : n < 2 ^ 31) (h0 : 0 < d) (hd : d < 2 ^ 31) : nI n / nI d = nI (n / d) := pk_div hn h0 hd
theorem two_both (p : Int32) : (∃ s h, s < 12 ∧ h < 12 ∧ p = nI (100 * s + h) ∧ p / 100 = nI s ∧ p - p / 100 * 100 = nI h ∧ f_X11_twoLetters p = some 1 ∧ f_X12_isTwo p = some 1) ∨ (f_X11_twoLetters p = some 0 ∧ f_X12_isTwo p = some 0) := by
  rw [e_two]
  by_cases h : 0 ≤ p ∧ (p / 100 ≤ 11) ∧ (p - p / 100 * 100 ≤ 11)
  · obtain ⟨j, hj, e⟩ := nI_of (Int32.not_lt.mpr h.1)
    have e1 : p / 100 = nI (j / 100) := by rw [e]; exact pk_div (d := 100) hj (by omega) (by omega)
    have e2 : p - p / 100 * 100 = nI (j % 100) := by rw [e]; exact pk_rem (d := 100) hj (by omega) (by omega)
    have h1 := h.2.1
    have h2 := h.2.2
    rw [e1] at h1
    rw [e2] at h2
    have h3 : j / 100 ≤ 11 := (nI_leI (b := 11) (by omega) (by omega)).mp h1
    have h4 : j % 100 ≤ 11 := (nI_leI (b := 11) (by omega) (by omega)).mp h2
    refine Or.inl ⟨j / 100, j % 100, by omega, by omega, by rw [e, Nat.div_add_mod], e1, e2, ?_⟩
    have : f_X12_isTwo p = some 1 := by
      unfold f_X12_isTwo f_X12_isTwo0
      rw [if_neg (Int32.not_lt.mpr h.1), letter_iff, tf_t ⟨by rw [e1]; exact nI_0le (by omega), h.2.1⟩, bnd1_e, if_neg one_n0, letter_iff, tf_t ⟨by rw [e2]; exact nI_0le (by omega), h.2.2⟩, bnd1_e, if_neg one_n0]
      rfl
    exact ⟨this, this⟩
  · have : f_X12_isTwo p = some 0 := by
      unfold f_X12_isTwo f_X12_isTwo0
      by_cases h1 : p < 0
      · rw [if_pos h1]; rfl
      · rw [if_neg h1, letter_iff]
        by_cases h2 : p / 100 ≤ 11
        · by_cases h20 : 0 ≤ p / 100
          · rw [tf_t ⟨h20, h2⟩, bnd1_e, if_neg one_n0, letter_iff, tf_f (fun q => h ⟨Int32.not_lt.mp h1, h2, q.2⟩), bnd1_e, if_pos rfl]; rfl
          · rw [tf_f (fun q => h20 q.1), bnd1_e, if_pos rfl]; rfl
        · rw [tf_f (fun q => h2 q.2), bnd1_e, if_pos rfl]; rfl
    exact Or.inr ⟨this, this⟩
/-! places of a ROW -/
theorem hasRun_C (σ : St) (d : Nat) {len : Nat} (hl : len ≤ 60) (e : σ.1 403 d = nI len) (p : Int32) : f_X8_hasRun σ d p 1 = some (tf (0 ≤ p ∧ p < nI len), σ) := by
  have h : f_X8_hasRun0 σ d p 1 = some (tf (0 ≤ p ∧ p < nI len), σ) := by
    unfold f_X8_hasRun0
    rw [e]
    by_cases h1 : p < 0
    · rw [if_pos h1, tf_f (fun q => absurd q.1 (Int32.not_le.mpr h1))]
    · rw [if_neg h1]
      by_cases h2 : p < nI len
      · rw [if_neg (Int32.not_lt.mpr ((le_pred (by omega)).mpr h2)), tf_t ⟨Int32.not_lt.mp h1, h2⟩]
      · rw [if_pos (Int32.not_le.mp (fun q => h2 ((le_pred (by omega)).mp q))), tf_f (fun q => h2 q.2)]
  unfold f_X8_hasRun
  rw [h, chkB_tf]
/-- the LETTER at a place of a ROW: -1, if there is none -/
def laN (len : Nat) (it : Nat → Int64) (i : Nat) : Int32 := if i < len then lvN (it i) else -1
theorem row_C {k : Nat} {α : Ab} {σ : St} (ho : OkA k α) (hc : AbsC α σ) {d : Nat} (hd : d < 6) (ht : 51 ≤ (aSH α d).1) : (aSH α d).2.1 ≤ 60 ∧ σ.1 403 d = nI (aSH α d).2.1 ∧ ∀ i, i < (aSH α d).2.1 → σ.2.2.2.1 400 d i = (aSH α d).2.2 i := by
  have h := (cSh hc d hd).2.2 ht
  refine ⟨?_, h.2.2⟩
  rcases sh3 ho hd with z | z | z
  · omega
  · omega
  · exact z.2.2
theorem row_M {α : Ab} {τ : St} (hm : AbsM α τ) {d : Nat} (hd : d < 6) (ht : 51 ≤ (aSH α d).1) : τ.2.2.1 640 0 d = nI (aSH α d).2.1 ∧ ∀ i, i < (aSH α d).2.1 → τ.2.2.2.1 641 0 (60 * d + i) = (aSH α d).2.2 i := (mSh hm d hd).2.2 ht
theorem letterAt_C {k : Nat} {α : Ab} {σ : St} (ho : OkA k α) (hc : AbsC α σ) {d : Nat} (hd : d < 6) (ht : 51 ≤ (aSH α d).1) {i : Nat} (hi : i < 2 ^ 31) : f_X8_letterAt σ d (nI i) = some (laN (aSH α d).2.1 (aSH α d).2.2 i, σ) := by
  obtain ⟨h1, h2, h3⟩ := row_C ho hc hd ht
  unfold f_X8_letterAt laN
  rw [hasRun_C σ d h1 h2, bnd2_e]
  by_cases h : i < (aSH α d).2.1
  · rw [tf_t ⟨nI_0le hi, nI_lt h (by omega)⟩, if_neg one_n0, if_pos h, chk_in (show i < 60 by omega) (by omega), chk_in (show i < 60 by omega) (by omega), nI_clamp hi, h3 i h, e_X11_isLetter, bnd1_e]
    unfold lvN
    by_cases h4 : 0 ≤ (aSH α d).2.2 i ∧ (aSH α d).2.2 i ≤ 11
    · rw [tf_t h4, if_neg one_n0, if_pos h4]
    · rw [tf_f h4, if_pos rfl, if_neg h4]
  · rw [tf_f (fun q => h ((nI_ltI hi (by omega)).mp q.2)), if_pos rfl, if_neg h]
theorem itemAt_M {α : Ab} {τ : St} (hm : AbsM α τ) {d : Nat} (hd : d < 6) (ht : 51 ≤ (aSH α d).1) {i : Nat} (hi : i < (aSH α d).2.1) (h60 : (aSH α d).2.1 ≤ 60) : f_X12_itemAt τ (nI d) (nI i) = some ((aSH α d).2.2 i, τ) := by
  unfold f_X12_itemAt
  have e : (60 : Int32) * nI d + nI i = nI (60 * d + i) := by
    show nI 60 * nI d + nI i = _
    rw [pk_mul, nI_add]
  rw [e, chk_in (show 60 * d + i < 360 by omega) (by omega), nI_clamp (by omega), (row_M hm hd ht).2 i hi]
/-! sizes of NAMES -/
theorem sz_C {k : Nat} {α : Ab} {σ : St} (ho : OkA k α) (hc : AbsC α σ) {n : Nat} (hn : n < (aN α).length) : n < 10 ∧ (nmL (aN α) n).length ≤ 6 ∧ 1 ≤ (nmL (aN α) n).length ∧ σ.2.2.1 301 0 n = nI (nmL (aN α) n).length := by
  have h1 := (oNm ho).1
  have h2 := (oNm ho).2.1 n hn
  exact ⟨by omega, h2.2, h2.1, (hc.1.2 n hn).1⟩
theorem sz_M {k : Nat} {α : Ab} {τ : St} (ho : OkA k α) (hm : AbsM α τ) {n : Nat} (hn : n < (aN α).length) : n < 10 ∧ (nmL (aN α) n).length ≤ 6 ∧ 1 ≤ (nmL (aN α) n).length ∧ τ.2.2.1 607 0 n = nI (nmL (aN α) n).length := by
  have h1 := (oNm ho).1
  have h2 := (oNm ho).2.1 n hn
  exact ⟨by omega, h2.2, h2.1, (hm.1.2 n hn).1⟩
theorem fracRes {a b part : Nat} (ha : a < 2 ^ 62) (hb : 0 < b) (hb2 : b < 2 ^ 62) (hp : part < 2) : f_X11_lowest (lN a) (lN b) (nI part) = f_X12_partOf (lN a) (lN b) (nI part) := by rw [e_lowest ha hb hb2 hp, e_partOf ha hb hb2 hp]
/-! steps: put, element, of shelves first -/
theorem tri_ne {r : Int32} (h : r = -1 ∨ r = -11 ∨ r = -12) : ¬ r = 0 ∧ ¬ r = 1 ∧ ¬ 0 ≤ r := by
  rcases h with h | h | h <;> subst h <;> decide
