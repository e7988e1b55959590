/-! 21 who, 23 fits: the first place that can't be heard so -/
theorem or0 (x : Int32) : x ||| (0 : Int32) = x := Int32.toBitVec_inj.mp (by simp)
def mfN (α : Ab) (d n : Nat) : Nat → Nat → Int32
  | 0, i => if (nmL (aN α) n).length = (aSH α d).2.1 then -2 else nI i
  | m + 1, i => if ptv α (ltr (aN α) n i) ((aSH α d).2.2 i) 0 = 0 then nI i else mfN α d n m (i + 1)
def mnN (a b : Nat) : Nat := if b < a then b else a
theorem mn_le (a b : Nat) : mnN a b ≤ a ∧ mnN a b ≤ b ∧ (mnN a b = a ∨ mnN a b = b) := by
  unfold mnN
  split <;> omega
theorem misfit_loopC {k : Nat} {α : Ab} (ho : OkA k α) {n d : Nat} (hn : n < (aN α).length) (hd : d < 6) (ht : 51 ≤ (aSH α d).1) : ∀ m i f σ, i + m = mnN (nmL (aN α) n).length (aSH α d).2.1 → m < f → AbsC α σ → ∃ σ', f_X3_misfit_b23 f σ d (nI n) (nI (nmL (aN α) n).length) (nI (mnN (nmL (aN α) n).length (aSH α d).2.1)) (nI i) = some (mfN α d n m i, σ') ∧ AbsC α σ' := by
  have hmn := mn_le (nmL (aN α) n).length (aSH α d).2.1
  intro m
  induction m with
  | zero =>
    intro i f σ hi hf hc
    obtain ⟨f, rfl⟩ : ∃ x, f = x + 1 := ⟨f - 1, by omega⟩
    obtain ⟨n1, n2, n3, n4⟩ := sz_C ho hc hn
    obtain ⟨r1, r2, r3⟩ := row_C ho hc hd ht
    rw [f_X3_misfit_b23, if_pos (nI_le (by omega) (by omega)), r2, mfN]
    by_cases e : (nmL (aN α) n).length = (aSH α d).2.1
    · rw [if_pos (congrArg nI e), if_pos e]
      exact ⟨σ, rfl, hc⟩
    · rw [if_neg (nI_lit_ne e (by omega) (by omega)), if_neg e, show mnN (nmL (aN α) n).length (aSH α d).2.1 = i by omega]
      exact ⟨σ, rfl, hc⟩
  | succ m ih =>
    intro i f σ hi hf hc
    obtain ⟨f, rfl⟩ : ∃ x, f = x + 1 := ⟨f - 1, by omega⟩
    obtain ⟨n1, n2, n3, n4⟩ := sz_C ho hc hn
    have hl := ltr_lt ho n i
    obtain ⟨σ1, x1, x2, x3⟩ := partsL_C ho hc hl ((aSH α d).2.2 i)
    have hp := ptv_le α (ltr (aN α) n i) ((aSH α d).2.2 i) 0
    have el : laN (aSH α d).2.1 (aSH α d).2.2 i = lvN ((aSH α d).2.2 i) := if_pos (by omega)
    rw [f_X3_misfit_b23, if_neg (nI_ge (show i < mnN (nmL (aN α) n).length (aSH α d).2.1 by omega) (by omega)), e_X6_at ho hc hn (show i < (nmL (aN α) n).length by omega), bnd2_e, letterAt_C ho hc hd ht (by omega), bnd2_e, el, x1, bnd2_e, mfN]
    simp only [bnd_e, nI_p1]
    by_cases e : ptv α (ltr (aN α) n i) ((aSH α d).2.2 i) 0 = 0
    · rw [if_pos ((nI_z (by omega)).mpr e), if_pos e]
      exact ⟨σ1, rfl, x3⟩
    · rw [if_neg (fun z => e ((nI_z (by omega)).mp z)), if_neg e]
      exact ih (i + 1) f σ1 (by omega) (by omega) x3
theorem misfit_loopM {k : Nat} {α : Ab} (ho : OkA k α) {n d pl : Nat} (hn : n < (aN α).length) (hd : d < 6) (ht : 51 ≤ (aSH α d).1) (h60 : (aSH α d).2.1 ≤ 60) (hpl : (pl = (nmL (aN α) n).length ∧ (aSH α d).2.1 ≤ pl) ∨ (pl = (aSH α d).2.1 ∧ (nmL (aN α) n).length ≤ pl)) : ∀ m i f τ, i + m = mnN (nmL (aN α) n).length (aSH α d).2.1 → m < f → AbsM α τ → ∃ τ', f_X12_misfit_b34 f τ (nI d) (nI n) (nI pl) (nI i) = some (mfN α d n m i, τ') ∧ AbsM α τ' := by
  have hmn := mn_le (nmL (aN α) n).length (aSH α d).2.1
  intro m
  induction m with
  | zero =>
    intro i f τ hi hf hm
    obtain ⟨f, rfl⟩ : ∃ x, f = x + 1 := ⟨f - 1, by omega⟩
    obtain ⟨n1, n2, n3, n4⟩ := sz_M ho hm hn
    have r1 := (row_M hm hd ht).1
    rw [f_X12_misfit_b34, mfN]
    by_cases e : (nmL (aN α) n).length = (aSH α d).2.1
    · rw [if_pos (nI_le (by omega) (by omega)), if_pos e]
      exact ⟨τ, rfl, hm⟩
    · rw [if_neg (nI_ge (show i < pl by omega) (by omega)), if_neg e, chk_in hd (by omega), nI_clamp (by omega), r1, chk_in n1 (by omega), nI_clamp (by omega), n4]
      by_cases e2 : (aSH α d).2.1 ≤ i
      · rw [if_pos (nI_le e2 (by omega))]
        exact ⟨τ, rfl, hm⟩
      · rw [if_neg (nI_ge (show i < (aSH α d).2.1 by omega) (by omega)), if_pos (nI_le (by omega) (by omega))]
        exact ⟨τ, rfl, hm⟩
  | succ m ih =>
    intro i f τ hi hf hm
    obtain ⟨f, rfl⟩ : ∃ x, f = x + 1 := ⟨f - 1, by omega⟩
    obtain ⟨n1, n2, n3, n4⟩ := sz_M ho hm hn
    have r1 := (row_M hm hd ht).1
    have hl := ltr_lt ho n i
    obtain ⟨τ1, x1, x2, x3⟩ := partL_M ho hm hl ((aSH α d).2.2 i)
    have hp := ptv_le α (ltr (aN α) n i) ((aSH α d).2.2 i) 0
    rw [f_X12_misfit_b34, if_neg (nI_ge (show i < pl by omega) (by omega)), chk_in hd (by omega), nI_clamp (show d < 2 ^ 31 by omega), r1, if_neg (nI_ge (show i < (aSH α d).2.1 by omega) (by omega)), chk_in n1 (by omega), nI_clamp (show n < 2 ^ 31 by omega), n4, if_neg (nI_ge (show i < (nmL (aN α) n).length by omega) (by omega)), e_X12_at1 ho hm hn (show i < (nmL (aN α) n).length by omega), bnd2_e, itemAt_M hm hd ht (by omega) h60, bnd2_e, x1, bnd2_e, mfN]
    simp only [bnd_e, nI_p1]
    by_cases e : ptv α (ltr (aN α) n i) ((aSH α d).2.2 i) 0 = 0
    · rw [if_pos ((nI_z (by omega)).mpr e), if_pos e]
      exact ⟨τ1, rfl, x3⟩
    · rw [if_neg (fun z => e ((nI_z (by omega)).mp z)), if_neg e]
      exact ih (i + 1) f τ1 (by omega) (by omega) x3
theorem misfit_both {k : Nat} {α : Ab} {σ τ : St} (ho : OkA k α) (hc : AbsC α σ) (hm : AbsM α τ) {n d : Nat} (hn : n < (aN α).length) (hd : d < 6) (ht : 51 ≤ (aSH α d).1) : Both α (fun _ => True) (f_X3_misfit σ d (nI n)) (f_X12_misfit τ (nI d) (nI n)) := by
  obtain ⟨n1, n2, n3, n4⟩ := sz_C ho hc hn
  have n5 := (sz_M ho hm hn).2.2.2
  obtain ⟨r1, r2, r3⟩ := row_C ho hc hd ht
  have r4 := (row_M hm hd ht).1
  have hmn := mn_le (nmL (aN α) n).length (aSH α d).2.1
  obtain ⟨σ1, x1, x2⟩ := misfit_loopC ho hn hd ht (mnN (nmL (aN α) n).length (aSH α d).2.1) 0 256 σ (by omega) (by omega) hc
  unfold f_X3_misfit f_X12_misfit
  have e0 : (if nI (aSH α d).2.1 < nI (nmL (aN α) n).length then nI (aSH α d).2.1 else nI (nmL (aN α) n).length) = nI (mnN (nmL (aN α) n).length (aSH α d).2.1) := by
    unfold mnN
    by_cases e : (aSH α d).2.1 < (nmL (aN α) n).length
    · rw [if_pos (nI_lt e (by omega)), if_pos e]
    · rw [if_neg (fun z => e ((nI_ltI (by omega) (by omega)).mp z)), if_neg e]
  rw [chk_in n1 (by omega), nI_clamp (show n < 2 ^ 31 by omega), n4, bnd_e, r2, e0, bnd_e, chk_in hd (by omega), chk_i2 n1 (by omega), chk_i2 n1 (by omega), chk_in hd (by omega), nI_clamp (show d < 2 ^ 31 by omega), r4, n5]
  simp only [bnd_e]
  by_cases e : (aSH α d).2.1 ≤ (nmL (aN α) n).length
  · rw [if_pos (nI_le e (by omega))]
    obtain ⟨τ1, y1, y2⟩ := misfit_loopM ho hn hd ht r1 (Or.inl ⟨rfl, e⟩) (mnN (nmL (aN α) n).length (aSH α d).2.1) 0 256 τ (by omega) (by omega) hm
    exact ⟨_, _, _, x1, y1, x2, y2, trivial⟩
  · rw [if_neg (nI_ge (Nat.not_le.mp e) (by omega))]
    obtain ⟨τ1, y1, y2⟩ := misfit_loopM ho hn hd ht r1 (Or.inr ⟨rfl, by omega⟩) (mnN (nmL (aN α) n).length (aSH α d).2.1) 0 256 τ (by omega) (by omega) hm
    exact ⟨_, _, _, x1, y1, x2, y2, trivial⟩
theorem who_loop {k : Nat} {α : Ab} (ho : OkA k α) {d : Nat} (hd : d < 6) (ht : 51 ≤ (aSH α d).1) : ∀ m n x f g σ τ, n + m = (aN α).length → m < f → m < g → AbsC α σ → AbsM α τ → Both α (fun _ => True) (f_X3_fitting_b4 f σ d x (nI n)) (f_X12_who_b18 g τ (nI d) x (nI n)) := by
  have hl := (oNm ho).1
  intro m
  induction m with
  | zero =>
    intro n x f g σ τ hi hf hg hc hm
    obtain ⟨f, rfl⟩ : ∃ x, f = x + 1 := ⟨f - 1, by omega⟩
    obtain ⟨g, rfl⟩ : ∃ x, g = x + 1 := ⟨g - 1, by omega⟩
    rw [f_X3_fitting_b4, f_X12_who_b18, hc.1.1, hm.1.1, if_pos (nI_le (by omega) (by omega)), if_pos (nI_le (by omega) (by omega))]
    exact both_ret hc hm trivial
  | succ m ih =>
    intro n x f g σ τ hi hf hg hc hm
    obtain ⟨f, rfl⟩ : ∃ x, f = x + 1 := ⟨f - 1, by omega⟩
    obtain ⟨g, rfl⟩ : ∃ x, g = x + 1 := ⟨g - 1, by omega⟩
    have hn : n < (aN α).length := by omega
    rw [f_X3_fitting_b4, f_X12_who_b18, hc.1.1, hm.1.1, if_neg (nI_ge hn (by omega)), if_neg (nI_ge hn (by omega))]
    refine both_bnd2 (misfit_both ho hc hm hn hd ht) ?_
    intro r σ1 τ1 q1 q2 _
    simp only [bnd_e, nI_p1, or0]
    by_cases e : r = -2
    · rw [if_pos e, if_pos e]
      exact ih (n + 1) _ f g σ1 τ1 (by omega) (by omega) (by omega) q1 q2
    · rw [if_neg e, if_neg e]
      exact ih (n + 1) _ f g σ1 τ1 (by omega) (by omega) (by omega) q1 q2
theorem st21 (k : Nat) : Step_21 (Rel k) (Rel (k + 1)) := by
  intro σ τ p hr
  obtain ⟨α, ho, hc, hm⟩ := hr
  have hR : Rel (k + 1) σ τ := ⟨α, okA_mono ho, hc, hm⟩
  have hl := (oNm ho).1
  unfold f_X11_who f_X12_who
  rcases bytes_both ho hc hm p with ⟨d, hd, ed, ht, b1, b2⟩ | ⟨b, hb, b1, b2⟩
  · rw [b1, b2, bnd2_e, bnd2_e, if_pos rfl, if_pos zle1]
    subst ed
    rw [chk_in hd (by omega), nI_clamp (by omega)]
    obtain ⟨r, σ2, τ2, q1, q2, q3, q4, _⟩ := who_loop ho hd (show 51 ≤ (aSH α d).1 by omega) (aN α).length 0 0 256 256 σ τ (by omega) (by omega) (by omega) hc hm
    have q1' : f_X3_fitting σ d = some (r, σ2) := q1
    rw [q1', bnd2_e]
    exact ⟨r, σ2, τ2, rfl, q2, α, okA_mono ho, q3, q4⟩
  · have hb3 := tri_ne hb
    rw [b1, b2, bnd2_e, bnd2_e, if_neg hb3.1, if_neg hb3.2.2, b2, bnd2_e]
    exact ⟨_, _, _, rfl, rfl, hR⟩
theorem st23 (k : Nat) : Step_23 (Rel k) (Rel (k + 1)) := by
  intro σ τ p q hr
  obtain ⟨α, ho, hc, hm⟩ := hr
  have hR : Rel (k + 1) σ τ := ⟨α, okA_mono ho, hc, hm⟩
  unfold f_X11_fits f_X12_fits f_X11_fits_b20
  rcases name_both ho hc hm q with ⟨n, hn, hn2, e, h1, h2⟩ | ⟨h1, h2⟩
  · rw [h1, bnd2_e, if_neg one_n0]
    rcases bytes_both ho hc hm p with ⟨d, hd, ed, ht, b1, b2⟩ | ⟨b, hb, b1, b2⟩
    · rw [b1, b2, bnd2_e, bnd2_e, if_pos rfl, if_neg (show ¬ (1 : Int32) = -1 by decide), h2, bnd2_e, if_neg one_n0, b2, bnd2_e, if_pos zle1]
      subst ed
      subst e
      rw [chk_in hd (by omega), nI_clamp (by omega)]
      obtain ⟨r, σ2, τ2, q1, q2, q3, q4, _⟩ := misfit_both ho hc hm hn hd (show 51 ≤ (aSH α d).1 by omega)
      rw [q1, q2, bnd2_e, bnd2_e]
      exact ⟨r, σ2, τ2, rfl, rfl, α, okA_mono ho, q3, q4⟩
    · have hb3 := tri_ne hb
      rw [b1, b2, bnd2_e, bnd2_e, if_neg hb3.1, h2, bnd2_e, if_neg one_n0, b2, bnd2_e, if_neg hb3.2.2, b2, bnd2_e]
      by_cases hq : b = -1
      · rw [if_pos hq, hq]
        exact ⟨_, _, _, rfl, rfl, hR⟩
      · rw [if_neg hq]
        exact ⟨_, _, _, rfl, rfl, hR⟩
  · rw [h1, bnd2_e, if_pos rfl, if_neg neg1_n0]
    have hx : ∃ b, f_X12_bytesIs τ p = some (b, τ) := by
      rcases bytes_both ho hc hm p with ⟨d, hd, ed, ht, b1, b2⟩ | ⟨b, hb, b1, b2⟩
      · exact ⟨_, b2⟩
      · exact ⟨_, b2⟩
    obtain ⟨b, b2⟩ := hx
    rw [b2, bnd2_e, h2, bnd2_e, if_pos rfl, ite_self]
    exact ⟨_, _, _, rfl, rfl, hR⟩
/-! 22 odd -/
theorem lv_eq {v : Int64} {l : Nat} (hl : l < 12) : lvN v = nI l ↔ v = (nI l).toInt64 := by
  rw [nI_l (by omega)]
  unfold lvN
  by_cases h : 0 ≤ v ∧ v ≤ 11
  · obtain ⟨j, hj, e1, _⟩ := lv_of h
    rw [if_pos h, e1, lN_i, nI_eq (by omega) (by omega), pk_lEQ (by omega) (by omega)]
  · rw [if_neg h]
    constructor
    · intro z
      exact absurd z.symm (nI_nm1 (by omega))
    · intro z
      exfalso
      apply h
      rw [z]
      exact ⟨(pk_lLE (a := 0) (by omega) (by omega)).mpr (by omega), (pk_lLE (b := 11) (by omega) (by omega)).mpr (by omega)⟩
theorem odd_loop {k : Nat} {α : Ab} {σ τ : St} (ho : OkA k α) (hc : AbsC α σ) (hm : AbsM α τ) {n d : Nat} (hn : n < (aN α).length) (hd : d < 6) (ht : 51 ≤ (aSH α d).1) (h60 : (aSH α d).2.1 ≤ 60) (hs : (nmL (aN α) n).length = (aSH α d).2.1) : ∀ m i c f g, i + m = (nmL (aN α) n).length → m < f → m < g → ∃ r, f_X6_unlike_b5 f σ d (nI n) c (nI i) = some (r, σ) ∧ f_X12_odd_b17 g τ (nI d) (nI n) c (nI i) = some (r, τ) := by
  obtain ⟨n1, n2, n3, n4⟩ := sz_C ho hc hn
  have n5 := (sz_M ho hm hn).2.2.2
  intro m
  induction m with
  | zero =>
    intro i c f g hi hf hg
    obtain ⟨f, rfl⟩ : ∃ x, f = x + 1 := ⟨f - 1, by omega⟩
    obtain ⟨g, rfl⟩ : ∃ x, g = x + 1 := ⟨g - 1, by omega⟩
    rw [f_X6_unlike_b5, f_X12_odd_b17, chk_in n1 (by omega), chk_in n1 (by omega), nI_clamp (by omega), n4, n5, if_pos (nI_le (by omega) (by omega)), if_pos (nI_le (by omega) (by omega))]
    exact ⟨_, rfl, rfl⟩
  | succ m ih =>
    intro i c f g hi hf hg
    obtain ⟨f, rfl⟩ : ∃ x, f = x + 1 := ⟨f - 1, by omega⟩
    obtain ⟨g, rfl⟩ : ∃ x, g = x + 1 := ⟨g - 1, by omega⟩
    have el : laN (aSH α d).2.1 (aSH α d).2.2 i = lvN ((aSH α d).2.2 i) := if_pos (by omega)
    have hlv := lv_eq (v := (aSH α d).2.2 i) (ltr_lt ho n i)
    rw [f_X6_unlike_b5, f_X12_odd_b17, chk_in n1 (by omega), chk_in n1 (by omega), nI_clamp (by omega), n4, n5, if_neg (nI_ge (show i < (nmL (aN α) n).length by omega) (by omega)), if_neg (nI_ge (show i < (nmL (aN α) n).length by omega) (by omega)), letterAt_C ho hc hd ht (by omega), bnd2_e, e_X6_at ho hc hn (show i < (nmL (aN α) n).length by omega), bnd2_e, itemAt_M hm hd ht (by omega) h60, bnd2_e, e_X12_at1 ho hm hn (show i < (nmL (aN α) n).length by omega), bnd2_e, el]
    simp only [bnd_e, nI_p1]
    by_cases e : lvN ((aSH α d).2.2 i) = nI (ltr (aN α) n i)
    · rw [if_pos e, if_pos (hlv.mp e), Int32.add_zero]
      exact ih (i + 1) c f g (by omega) (by omega) (by omega)
    · rw [if_neg e, if_neg (fun z => e (hlv.mpr z))]
      exact ih (i + 1) _ f g (by omega) (by omega) (by omega)
theorem st22 (k : Nat) : Step_22 (Rel k) (Rel (k + 1)) := by
  intro σ τ p hr
  obtain ⟨α, ho, hc, hm⟩ := hr
  have hR : Rel (k + 1) σ τ := ⟨α, okA_mono ho, hc, hm⟩
  have hl := (oNm ho).1
  unfold f_X11_odd f_X12_odd
  rcases bytes_both ho hc hm p with ⟨d, hd, ed, ht, b1, b2⟩ | ⟨b, hb, b1, b2⟩
  · rw [b1, bnd2_e, if_pos rfl]
    subst ed
    obtain ⟨σ1, x1, x2⟩ := weigh_C ho hc hd ht (-1)
    obtain ⟨τ1, y1, y2⟩ := likeliest_M ho hm hd ht b2
    rw [pc_m1] at x2
    rw [chk_in hd (by omega), nI_clamp (by omega), x1, bnd1_e, best_C ho (fun j hj => pr_le ho d hj) x2, bnd2_e, y1, bnd2_e]
    by_cases h0 : smsN (prN α d) (aN α).length = 0
    · rw [bstC_0 h0, if_neg (show ¬ (0 : Int32) ≤ -2 by decide), if_neg (show ¬ (0 : Int32) ≤ -2 by decide)]
      exact ⟨_, _, _, rfl, rfl, α, okA_mono ho, x2.1, y2.1⟩
    · have hbl := bst_lt (prN α d) (sums_pos h0)
      have hb0 : ¬ prN α d (bstN (prN α d) (aN α).length) = 0 := fun z => h0 ((sums_mx _ _).mpr (by rw [← mx_bst (prN α d) (sums_pos h0)]; exact z))
      have hsz := pr_size hb0
      obtain ⟨n1, n2, n3, n4⟩ := sz_C ho x2.1 hbl
      have h60 : (aSH α d).2.1 ≤ 60 := by omega
      obtain ⟨r, q1, q2⟩ := odd_loop ho x2.1 y2.1 hbl hd (show 51 ≤ (aSH α d).1 by omega) h60 hsz (nmL (aN α) (bstN (prN α d) (aN α).length)).length 0 0 256 256 (by omega) (by omega) (by omega)
      have q1' : f_X6_unlike σ1 d (nI (bstN (prN α d) (aN α).length)) = _ := q1
      rw [bstC_1 h0, if_pos (nI_0le (by omega)), if_pos (nI_0le (by omega)), chk_i2 hd (by omega), q1', bnd2_e]
      exact ⟨r, _, _, rfl, q2, α, okA_mono ho, x2.1, y2.1⟩
  · have hb3 := tri_ne hb
    unfold f_X12_likeliest
    rw [b1, b2, bnd2_e, bnd2_e, if_neg hb3.1, if_neg hb3.2.2, b2, bnd2_e, bnd2_e, if_neg hb3.2.2]
    exact ⟨_, _, _, rfl, rfl, hR⟩
