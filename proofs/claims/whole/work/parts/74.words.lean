/-! by WORDS -/
theorem e_isIn (x y : Int32) : f_X12_isIn x y = some (tf (¬ (x >>> (y &&& 31)) &&& (1 : Int32) = 0)) := by
  have h : f_X12_isIn0 x y = some (tf (¬ (x >>> (y &&& 31)) &&& (1 : Int32) = 0)) := by
    unfold f_X12_isIn0
    obtain ⟨j, hj, e⟩ := pk_andE (x >>> (y &&& 31)) (m := 1) 1 (by decide)
    rw [e]
    rcases (show j = 0 ∨ j = 1 by omega) with q | q
    · subst q
      rw [if_neg (by decide), tf_f (fun z => z rfl)]
    · subst q
      rw [if_pos (by decide), tf_t (by decide)]
  unfold f_X12_isIn
  rw [h, chkB1_tf]
theorem shl_sz {n : Nat} (h1 : 1 ≤ n) (h6 : n ≤ 6) : (1 : Int32) <<< (nI n &&& 31) = nI (2 ^ n) := by
  rcases (show n = 1 ∨ n = 2 ∨ n = 3 ∨ n = 4 ∨ n = 5 ∨ n = 6 by omega) with q | q | q | q | q | q <;> subst q <;> decide
theorem two6 {n : Nat} (h : n ≤ 6) : 2 ^ n ≤ 64 := Nat.pow_le_pow_right (n := 2) (by decide) h
theorem set_both {k : Nat} {α : Ab} {σ τ : St} (ho : OkA k α) (hc : AbsC α σ) (hm : AbsM α τ) (p q : Int32) : (∃ n, n < (aN α).length ∧ p = nI n ∧ f_X6_hasSet σ p q = some (1, σ) ∧ f_X12_isSet τ p q = some (1, τ)) ∨ (f_X6_hasSet σ p q = some (0, σ) ∧ f_X12_isSet τ p q = some (0, τ)) := by
  unfold f_X6_hasSet f_X6_hasSet0 f_X12_isSet f_X12_isSet0
  rcases name_both ho hc hm p with ⟨n, hn, hn2, e, h1, h2⟩ | ⟨h1, h2⟩
  · rw [h1, h2, bnd2_e, bnd2_e, if_neg one_n0, if_neg one_n0]
    subst e
    obtain ⟨n1, n2, n3, n4⟩ := sz_C ho hc hn
    have n5 := (sz_M ho hm hn).2.2.2
    have h64 := two6 n2
    rw [chk_in hn2 (by omega), chk_in hn2 (by omega), nI_clamp (by omega), n4, n5, shl_sz n3 n2, within_n q (show 2 ^ (nmL (aN α) n).length ≤ 1000000 by omega), bnd1_e]
    by_cases hq : 0 ≤ q ∧ q < nI (2 ^ (nmL (aN α) n).length)
    · rw [tf_t hq, if_neg one_n0, if_neg (Int32.not_lt.mpr hq.1), if_neg (Int32.not_le.mpr hq.2)]
      exact Or.inl ⟨n, hn, rfl, rfl, rfl⟩
    · rw [tf_f hq, if_pos rfl]
      refine Or.inr ⟨?_, rfl⟩
      by_cases q0 : q < 0
      · rw [if_pos q0]; rfl
      · rw [if_neg q0, if_pos (Int32.not_lt.mp (fun z => hq ⟨Int32.not_lt.mp q0, z⟩))]; rfl
  · rw [h1, h2]
    exact Or.inr ⟨rfl, rfl⟩
/-- the time that a NAME takes -/
def tmA (α : Ab) (n : Nat) (x : Int32) : Nat → Nat → Int32 → Int32
  | 0, _, acc => acc
  | m + 1, i, acc => tmA α n x m (i + 1) (if (x >>> (nI i &&& 31)) &&& (1 : Int32) = 0 then acc + 1 else acc + nI (aLG α (ltr (aN α) n i)))
theorem lasts_C {k : Nat} {α : Ab} {σ : St} (ho : OkA k α) (hc : AbsC α σ) {n : Nat} (hn : n < (aN α).length) (x : Int32) : ∀ m i f acc, i + m = (nmL (aN α) n).length → m < f → f_X9_lasts_b5 f σ (nI n) x acc (nI i) = some (tmA α n x m i acc, σ) := by
  obtain ⟨n1, n2, n3, n4⟩ := sz_C ho hc hn
  intro m
  induction m with
  | zero =>
    intro i f acc hi hf
    obtain ⟨f, rfl⟩ : ∃ x, f = x + 1 := ⟨f - 1, by omega⟩
    rw [f_X9_lasts_b5, chk_in n1 (by omega), nI_clamp (by omega), n4, if_pos (nI_le (by omega) (by omega))]
    rfl
  | succ m ih =>
    intro i f acc hi hf
    obtain ⟨f, rfl⟩ : ∃ x, f = x + 1 := ⟨f - 1, by omega⟩
    have hl := ltr_lt ho n i
    rw [f_X9_lasts_b5, chk_in n1 (by omega), nI_clamp (show n < 2 ^ 31 by omega), n4, if_neg (nI_ge (show i < (nmL (aN α) n).length by omega) (by omega)), tmA, e_X6_at ho hc hn (show i < (nmL (aN α) n).length by omega), bnd2_e, chk_in hl (by omega), nI_clamp (show ltr (aN α) n i < 2 ^ 31 by omega), (hc.2.1.2.1 _ hl).1]
    simp only [bnd_e, nI_p1]
    by_cases hq : (x >>> (nI i &&& 31)) &&& (1 : Int32) = 0
    · rw [if_pos hq, if_pos hq]
      exact ih (i + 1) f _ (by omega) (by omega)
    · rw [if_neg hq, if_neg hq]
      exact ih (i + 1) f _ (by omega) (by omega)
theorem timeBy_M {k : Nat} {α : Ab} {τ : St} (ho : OkA k α) (hm : AbsM α τ) {n : Nat} (hn : n < (aN α).length) (x : Int32) : ∀ m i f acc, i + m = (nmL (aN α) n).length → m < f → f_X12_timeBy_b5 f τ (nI n) x acc (nI i) = some (tmA α n x m i acc, τ) := by
  obtain ⟨n1, n2, n3, n4⟩ := sz_M ho hm hn
  intro m
  induction m with
  | zero =>
    intro i f acc hi hf
    obtain ⟨f, rfl⟩ : ∃ x, f = x + 1 := ⟨f - 1, by omega⟩
    rw [f_X12_timeBy_b5, chk_in n1 (by omega), nI_clamp (by omega), n4, if_pos (nI_le (by omega) (by omega))]
    rfl
  | succ m ih =>
    intro i f acc hi hf
    obtain ⟨f, rfl⟩ : ∃ x, f = x + 1 := ⟨f - 1, by omega⟩
    have hl := ltr_lt ho n i
    have e154 : (154 : Int32) + nI (ltr (aN α) n i) = nI (154 + ltr (aN α) n i) := nI_add 154 _
    rw [f_X12_timeBy_b5, chk_in n1 (by omega), nI_clamp (show n < 2 ^ 31 by omega), n4, if_neg (nI_ge (show i < (nmL (aN α) n).length by omega) (by omega)), tmA, e_isIn, bnd1_e, e_X12_at1 ho hm hn (show i < (nmL (aN α) n).length by omega), bnd2_e, e154, chk_in (show 154 + ltr (aN α) n i < 179 by omega) (by omega), nI_clamp (show 154 + ltr (aN α) n i < 2 ^ 31 by omega), (hm.2.1.2.1 _ hl).1]
    simp only [bnd_e, nI_p1]
    by_cases hq : (x >>> (nI i &&& 31)) &&& (1 : Int32) = 0
    · rw [if_pos hq, tf_f (fun z => z hq), if_pos rfl]
      exact ih (i + 1) f _ (by omega) (by omega)
    · rw [if_neg hq, tf_t hq, if_neg one_n0]
      exact ih (i + 1) f _ (by omega) (by omega)
/-! 13 time -/
theorem st13 (k : Nat) : Step_13 (Rel k) (Rel (k + 1)) := by
  intro σ τ p q hr
  obtain ⟨α, ho, hc, hm⟩ := hr
  have hR : Rel (k + 1) σ τ := ⟨α, okA_mono ho, hc, hm⟩
  unfold f_X11_time f_X12_time
  rcases set_both ho hc hm p q with ⟨n, hn, e, h1, h2⟩ | ⟨h1, h2⟩
  · rw [h1, h2, bnd2_e, bnd2_e, if_neg one_n0, if_neg one_n0]
    subst e
    obtain ⟨n1, n2, n3, n4⟩ := sz_C ho hc hn
    have x1 : f_X9_lasts σ (nI n) q = _ := lasts_C ho hc hn q (nmL (aN α) n).length 0 256 0 (by omega) (by omega)
    have x2 : f_X12_timeBy τ (nI n) q = _ := timeBy_M ho hm hn q (nmL (aN α) n).length 0 256 0 (by omega) (by omega)
    rw [x1, x2]
    exact ⟨_, _, _, rfl, rfl, hR⟩
  · rw [h1, h2]
    exact ⟨_, _, _, rfl, rfl, hR⟩
/-- PARTS by a WORD -/
def wN (α : Ab) (l : Nat) : Nat := (aCL α l * 100 + (12 - aCL α l) * ptN α l l 0) / 12
theorem wN_b {k : Nat} {α : Ab} (ho : OkA k α) {l : Nat} (hl : l < 12) : aCL α l * 100 + (12 - aCL α l) * ptN α l l 0 ≤ 1200 := by
  have h1 := (oLi ho).2.2.2.2.1 l
  have h2 := Nat.mul_le_mul_left (12 - aCL α l) (pt_le α l 0 hl)
  omega
theorem wN_le {k : Nat} {α : Ab} (ho : OkA k α) {l : Nat} (hl : l < 12) : wN α l ≤ 100 := by
  have h := wN_b ho hl
  unfold wN
  omega
theorem wN_e {k : Nat} {α : Ab} (ho : OkA k α) {l : Nat} (hl : l < 12) : (nI (aCL α l) * (100 : Int32) + ((12 : Int32) - nI (aCL α l)) * nI (ptN α l l 0)) / (12 : Int32) = nI (wN α l) := by
  have h1 := (oLi ho).2.2.2.2.1 l
  have h := wN_b ho hl
  show (nI (aCL α l) * nI 100 + (nI 12 - nI (aCL α l)) * nI (ptN α l l 0)) / nI 12 = _
  rw [pk_mul, pk_sub h1, pk_mul, nI_add, pk_div (by omega) (by omega) (by omega)]
  rfl
/-- how likely a NAME is heard right, by WORDS at a set -/
def rbA (α : Ab) (n : Nat) (x : Int32) : Nat → Nat → Nat → Nat
  | 0, _, acc => acc
  | m + 1, i, acc => rbA α n x m (i + 1) (acc * (if (x >>> (nI i &&& 31)) &&& (1 : Int32) = 0 then ptN α (ltr (aN α) n i) (ltr (aN α) n i) 0 else wN α (ltr (aN α) n i)))
theorem rbA_le {k : Nat} {α : Ab} (ho : OkA k α) (n : Nat) (x : Int32) : ∀ m i acc, acc ≤ 100 ^ i → rbA α n x m i acc ≤ 100 ^ (i + m)
  | 0, i, acc, h => h
  | m + 1, i, acc, h => by
    rw [rbA]
    have hl := ltr_lt ho n i
    have h2 := rbA_le ho n x m (i + 1) (acc * (if (x >>> (nI i &&& 31)) &&& (1 : Int32) = 0 then ptN α (ltr (aN α) n i) (ltr (aN α) n i) 0 else wN α (ltr (aN α) n i))) (mul_step h (by
      split
      · exact pt_le α _ 0 hl
      · exact wN_le ho hl))
    rw [show i + (m + 1) = i + 1 + m by omega]
    exact h2
def PrepC (α : Ab) (n : Nat) (σ : St) : Prop := ∀ i, i < (nmL (aN α) n).length → σ.2.2.1 452 0 i = nI (ptN α (ltr (aN α) n i) (ltr (aN α) n i) 0) ∧ σ.2.2.1 453 0 i = nI (wN α (ltr (aN α) n i))
theorem absC_452 {α : Ab} {σ : St} (h : AbsC α σ) (v : Nat → Int32) : AbsC α (sA σ 452 0 v) := ⟨h.1, h.2.1, h.2.2.1, law_cong rfl (fun _ => rfl) (fun _ => rfl) h.2.2.2.1, h.2.2.2.2⟩
theorem absC_453 {α : Ab} {σ : St} (h : AbsC α σ) (v : Nat → Int32) : AbsC α (sA σ 453 0 v) := ⟨h.1, h.2.1, h.2.2.1, law_cong rfl (fun _ => rfl) (fun _ => rfl) h.2.2.2.1, h.2.2.2.2⟩
theorem prep_loop {k : Nat} {α : Ab} (ho : OkA k α) {n : Nat} (hn : n < (aN α).length) : ∀ m i f σ, i + m = (nmL (aN α) n).length → m < f → AbsC α σ → (∀ j, j < i → σ.2.2.1 452 0 j = nI (ptN α (ltr (aN α) n j) (ltr (aN α) n j) 0) ∧ σ.2.2.1 453 0 j = nI (wN α (ltr (aN α) n j))) → ∃ σ', f_X9_prepare_b2 f σ (nI n) (nI i) = some σ' ∧ AbsC α σ' ∧ PrepC α n σ' := by
  intro m
  induction m with
  | zero =>
    intro i f σ hi hf hc hp
    obtain ⟨f, rfl⟩ : ∃ x, f = x + 1 := ⟨f - 1, by omega⟩
    obtain ⟨n1, n2, n3, n4⟩ := sz_C ho hc hn
    rw [f_X9_prepare_b2, chk_in n1 (by omega), nI_clamp (by omega), n4, if_pos (nI_le (by omega) (by omega))]
    exact ⟨σ, rfl, hc, fun j hj => hp j (by omega)⟩
  | succ m ih =>
    intro i f σ hi hf hc hp
    obtain ⟨f, rfl⟩ : ∃ x, f = x + 1 := ⟨f - 1, by omega⟩
    obtain ⟨n1, n2, n3, n4⟩ := sz_C ho hc hn
    have hl := ltr_lt ho n i
    obtain ⟨σ1, x1, x2, x3⟩ := parts0_C ho hc hl hl
    rw [f_X9_prepare_b2, chk_in n1 (by omega), nI_clamp (show n < 2 ^ 31 by omega), n4, if_neg (nI_ge (show i < (nmL (aN α) n).length by omega) (by omega)), e_X6_at ho hc hn (show i < (nmL (aN α) n).length by omega), bnd2_e, chk_in hl (by omega), nI_clamp (show ltr (aN α) n i < 2 ^ 31 by omega), (hc.2.1.2.1 _ hl).2, bnd_e, x1, bnd2_e]
    simp only [bnd_e, nI_p1, chk_in (show i < 6 by omega) (show 6 ≤ 2000000000 by omega)]
    simp only [bnd_e, nI_p1, nI_clamp (show i < 2 ^ 31 by omega)]
    have e2 : (sA σ1 452 0 (upd (σ1.2.2.1 452 0) i (nI (ptN α (ltr (aN α) n i) (ltr (aN α) n i) 0)))).2.2.1 452 0 i = nI (ptN α (ltr (aN α) n i) (ltr (aN α) n i) 0) := pk_us
    rw [e2, wN_e ho hl]
    refine ih (i + 1) f _ (by omega) (by omega) (absC_453 (absC_452 x3 _) _) ?_
    intro j hj
    by_cases e : j = i
    · subst e
      exact ⟨pk_us, pk_us⟩
    · have q := hp j (by omega)
      have f1 := x2.2.2.2 452 0 (by decide) (by decide) (by decide) (by decide)
      have f2 := x2.2.2.2 453 0 (by decide) (by decide) (by decide) (by decide)
      refine ⟨?_, ?_⟩
      · show upd (σ1.2.2.1 452 0) i _ j = _
        rw [pk_un e, f1]
        exact q.1
      · show upd (σ1.2.2.1 453 0) i _ j = _
        rw [pk_un e, f2]
        exact q.2
theorem prepare_C {k : Nat} {α : Ab} {σ : St} (ho : OkA k α) (hc : AbsC α σ) {n : Nat} (hn : n < (aN α).length) : ∃ σ', f_X9_prepare σ (nI n) = some σ' ∧ AbsC α σ' ∧ PrepC α n σ' := by
  have h6 := ((oNm ho).2.1 n hn).2
  exact prep_loop ho hn (nmL (aN α) n).length 0 256 σ (by omega) (by omega) hc (fun j hj => absurd hj (Nat.not_lt_zero j))
theorem rightBy_C {k : Nat} {α : Ab} {σ : St} (ho : OkA k α) (hc : AbsC α σ) {n : Nat} (hn : n < (aN α).length) (hp : PrepC α n σ) (x : Int32) : ∀ m i f acc, i + m = (nmL (aN α) n).length → m < f → f_X9_rightBy_b5 f σ (nI n) x (lN acc) (nI i) = some (lN (rbA α n x m i acc), σ) := by
  obtain ⟨n1, n2, n3, n4⟩ := sz_C ho hc hn
  intro m
  induction m with
  | zero =>
    intro i f acc hi hf
    obtain ⟨f, rfl⟩ : ∃ x, f = x + 1 := ⟨f - 1, by omega⟩
    rw [f_X9_rightBy_b5, chk_in n1 (by omega), nI_clamp (by omega), n4, if_pos (nI_le (by omega) (by omega))]
    rfl
  | succ m ih =>
    intro i f acc hi hf
    obtain ⟨f, rfl⟩ : ∃ x, f = x + 1 := ⟨f - 1, by omega⟩
    have hl := ltr_lt ho n i
    have hp1 := pt_le α (ltr (aN α) n i) 0 hl
    have hp2 := wN_le ho hl
    rw [f_X9_rightBy_b5, chk_in n1 (by omega), nI_clamp (show n < 2 ^ 31 by omega), n4, if_neg (nI_ge (show i < (nmL (aN α) n).length by omega) (by omega)), rbA, chk_in (show i < 6 by omega) (by omega), chk_in (show i < 6 by omega) (by omega), nI_clamp (show i < 2 ^ 31 by omega), (hp i (by omega)).1, (hp i (by omega)).2, nI_l (show ptN α (ltr (aN α) n i) (ltr (aN α) n i) 0 < 2 ^ 31 by omega), nI_l (show wN α (ltr (aN α) n i) < 2 ^ 31 by omega), lN_mul, lN_mul]
    simp only [bnd_e, nI_p1]
    by_cases hq : (x >>> (nI i &&& 31)) &&& (1 : Int32) = 0
    · rw [if_pos hq, if_pos hq]
      exact ih (i + 1) f _ (by omega) (by omega)
    · rw [if_neg hq, if_neg hq]
      exact ih (i + 1) f _ (by omega) (by omega)
theorem rightBy_M {k : Nat} {α : Ab} (ho : OkA k α) {n : Nat} (hn : n < (aN α).length) (x : Int32) : ∀ m i f acc τ, i + m = (nmL (aN α) n).length → m < f → AbsM α τ → ∃ τ', f_X12_rightBy_b5 f τ (nI n) x (lN acc) (nI i) = some (lN (rbA α n x m i acc), τ') ∧ AbsM α τ' := by
  intro m
  induction m with
  | zero =>
    intro i f acc τ hi hf hm
    obtain ⟨f, rfl⟩ : ∃ x, f = x + 1 := ⟨f - 1, by omega⟩
    obtain ⟨n1, n2, n3, n4⟩ := sz_M ho hm hn
    rw [f_X12_rightBy_b5, chk_in n1 (by omega), nI_clamp (by omega), n4, if_pos (nI_le (by omega) (by omega))]
    exact ⟨τ, rfl, hm⟩
  | succ m ih =>
    intro i f acc τ hi hf hm
    obtain ⟨f, rfl⟩ : ∃ x, f = x + 1 := ⟨f - 1, by omega⟩
    obtain ⟨n1, n2, n3, n4⟩ := sz_M ho hm hn
    have hl := ltr_lt ho n i
    have hp1 := pt_le α (ltr (aN α) n i) 0 hl
    have hp2 := wN_le ho hl
    obtain ⟨τ1, y1, y2, y3⟩ := part0_M ho hm hl hl
    have e166 : (166 : Int32) + nI (ltr (aN α) n i) = nI (166 + ltr (aN α) n i) := nI_add 166 _
    rw [f_X12_rightBy_b5, chk_in n1 (by omega), nI_clamp (show n < 2 ^ 31 by omega), n4, if_neg (nI_ge (show i < (nmL (aN α) n).length by omega) (by omega)), rbA, e_X12_at1 ho hm hn (show i < (nmL (aN α) n).length by omega), bnd2_e, y1, bnd2_e, e166, chk_in (show 166 + ltr (aN α) n i < 179 by omega) (by omega), nI_clamp (show 166 + ltr (aN α) n i < 2 ^ 31 by omega), (y3.2.1.2.1 _ hl).2, bnd_e, e_isIn, bnd1_e, wN_e ho hl, nI_l (show ptN α (ltr (aN α) n i) (ltr (aN α) n i) 0 < 2 ^ 31 by omega), nI_l (show wN α (ltr (aN α) n i) < 2 ^ 31 by omega), lN_mul, lN_mul]
    simp only [bnd_e, nI_p1]
    by_cases hq : (x >>> (nI i &&& 31)) &&& (1 : Int32) = 0
    · rw [if_pos hq, tf_f (fun z => z hq), if_pos rfl]
      exact ih (i + 1) f _ τ1 (by omega) (by omega) y3
    · rw [if_neg hq, tf_t hq, if_neg one_n0]
      exact ih (i + 1) f _ τ1 (by omega) (by omega) y3
/-! 12 right -/
theorem st12 (k : Nat) : Step_12 (Rel k) (Rel (k + 1)) := by
  intro σ τ p q r hr
  obtain ⟨α, ho, hc, hm⟩ := hr
  have hR : Rel (k + 1) σ τ := ⟨α, okA_mono ho, hc, hm⟩
  unfold f_X11_right f_X12_right
  rcases set_both ho hc hm p q with ⟨n, hn, e, h1, h2⟩ | ⟨h1, h2⟩
  · rw [h1, h2, bnd2_e, bnd2_e, if_neg one_n0, if_neg one_n0]
    subst e
    rcases part_both r with ⟨w, hw, er, d1, d2⟩ | ⟨d1, d2⟩
    · rw [d1, d2, bnd1_e, bnd1_e, if_neg one_n0, if_neg one_n0]
      obtain ⟨σ1, a1, a2, a3⟩ := prepare_C ho hc hn
      obtain ⟨n1, n2, n3, n4⟩ := sz_C ho a2 hn
      have x1 : f_X9_rightBy σ1 (nI n) q = _ := rightBy_C ho a2 hn a3 q (nmL (aN α) n).length 0 256 1 (by omega) (by omega)
      obtain ⟨τ1, x2, x3⟩ := rightBy_M ho hn q (nmL (aN α) n).length 0 256 1 τ (by omega) (by omega) hm
      have x2' : f_X12_rightBy τ (nI n) q = _ := x2
      have n5 := (sz_M ho x3 hn).2.2.2
      rw [a1, bnd1_e, x1, bnd2_e, x2', bnd2_e, chk_in n1 (by omega), chk_in n1 (by omega), nI_clamp (by omega), n4, n5, chk_in (show (nmL (aN α) n).length < 7 by omega) (by omega), nI_clamp (by omega), e_powerOf n2, e_hundA n2, bnd1_e, er]
      have hb := rbA_le ho n q (nmL (aN α) n).length 0 1 (Nat.le_refl _)
      rw [Nat.zero_add] at hb
      have hpw := pow6 n2
      have hpp : 0 < 100 ^ (nmL (aN α) n).length := Nat.pow_pos (by decide)
      rw [fracRes (by omega) hpp (by omega) hw, e_partOf (by omega) hpp (by omega) hw]
      exact ⟨_, _, _, rfl, rfl, α, okA_mono ho, a2, x3⟩
    · rw [d1, d2]
      exact ⟨_, _, _, rfl, rfl, hR⟩
  · rw [h1, h2]
    exact ⟨_, _, _, rfl, rfl, hR⟩
/-! 14 leastSaid -/
theorem least_loop {k : Nat} {α : Ab} {σ : St} (ho : OkA k α) (hc : AbsC α σ) {n : Nat} (hn : n < (aN α).length) (hp : PrepC α n σ) (q : Int32) : ∀ m j f g τ x t, j + m = 2 ^ (nmL (aN α) n).length → m < f → m < g → AbsM α τ → (x = -2 ∨ ∃ b, b < 64 ∧ x = nI b ∧ t = tmA α n (nI b) (nmL (aN α) n).length 0 0) → Both α (fun _ => True) (f_X9_leastSet_b27 f σ (nI n) x t (q.toInt64 * lN (100 ^ (nmL (aN α) n).length)) (nI j)) (f_X12_leastSaid_b28 g τ (nI n) q x (nI j)) := by
  obtain ⟨n1, n2, n3, n4⟩ := sz_C ho hc hn
  have h64 := two6 n2
  intro m
  induction m with
  | zero =>
    intro j f g τ x t hj hf hg hm hx
    obtain ⟨f, rfl⟩ : ∃ x, f = x + 1 := ⟨f - 1, by omega⟩
    obtain ⟨g, rfl⟩ : ∃ x, g = x + 1 := ⟨g - 1, by omega⟩
    have n5 := (sz_M ho hm hn).2.2.2
    rw [f_X9_leastSet_b27, f_X12_leastSaid_b28, chk_in n1 (by omega), chk_in n1 (by omega), nI_clamp (by omega), n4, n5, shl_sz n3 n2, if_pos (nI_le (by omega) (by omega)), if_pos (nI_le (by omega) (by omega))]
    exact both_ret hc hm trivial
  | succ m ih =>
    intro j f g τ x t hj hf hg hm hx
    obtain ⟨f, rfl⟩ : ∃ x, f = x + 1 := ⟨f - 1, by omega⟩
    obtain ⟨g, rfl⟩ : ∃ x, g = x + 1 := ⟨g - 1, by omega⟩
    have n5 := (sz_M ho hm hn).2.2.2
    have t1 : f_X9_lasts σ (nI n) (nI j) = _ := lasts_C ho hc hn (nI j) (nmL (aN α) n).length 0 256 0 (by omega) (by omega)
    have r1 : f_X9_rightBy σ (nI n) (nI j) = _ := rightBy_C ho hc hn hp (nI j) (nmL (aN α) n).length 0 256 1 (by omega) (by omega)
    obtain ⟨τ1, r2, hm1⟩ := rightBy_M ho hn (nI j) (nmL (aN α) n).length 0 256 1 τ (by omega) (by omega) hm
    have r2' : f_X12_rightBy τ (nI n) (nI j) = _ := r2
    have n6 := (sz_M ho hm1 hn).2.2.2
    have t2 : f_X12_timeBy τ1 (nI n) (nI j) = _ := timeBy_M ho hm1 hn (nI j) (nmL (aN α) n).length 0 256 0 (by omega) (by omega)
    rw [f_X9_leastSet_b27, f_X12_leastSaid_b28, chk_in n1 (by omega), chk_in n1 (by omega), nI_clamp (show n < 2 ^ 31 by omega), n4, n5, shl_sz n3 n2, if_neg (nI_ge (show j < 2 ^ (nmL (aN α) n).length by omega) (by omega)), if_neg (nI_ge (show j < 2 ^ (nmL (aN α) n).length by omega) (by omega)), t1, bnd2_e, r2', bnd2_e, chk_i2 n1 (by omega), n6, e_powerOf n2, bnd1_e]
    unfold f_X9_leastSet_b63
    rw [r1, bnd2_e]
    simp only [bnd_e, nI_p1]
    by_cases hA : (12 : Int64) * lN (rbA α n (nI j) (nmL (aN α) n).length 0 1) ≤ q.toInt64 * lN (100 ^ (nmL (aN α) n).length)
    · rw [if_pos hA, if_pos hA]
      have := ih (j + 1) f g τ1 x t (by omega) (by omega) (by omega) hm1 hx
      rw [ite_self, ite_self]
      exact this
    · rw [if_neg hA, if_neg hA]
      rcases hx with hx | ⟨b, hb, hx, ht⟩
      · rw [if_pos (show x < 0 by rw [hx]; decide), if_pos (show x < 0 by rw [hx]; decide)]
        exact ih (j + 1) f g τ1 _ _ (by omega) (by omega) (by omega) hm1 (Or.inr ⟨j, by omega, rfl, rfl⟩)
      · have hx0 : ¬ x < 0 := by rw [hx]; exact nI_n0 (by omega)
        rw [if_neg hx0, if_neg hx0, t2, bnd2_e, hx]
        have t3 : f_X12_timeBy τ1 (nI n) (nI b) = _ := timeBy_M ho hm1 hn (nI b) (nmL (aN α) n).length 0 256 0 (by omega) (by omega)
        rw [t3, bnd2_e, ht]
        by_cases hB : tmA α n (nI b) (nmL (aN α) n).length 0 0 ≤ tmA α n (nI j) (nmL (aN α) n).length 0 0
        · rw [if_pos hB, if_pos hB]
          exact ih (j + 1) f g τ1 _ _ (by omega) (by omega) (by omega) hm1 (Or.inr ⟨b, hb, rfl, rfl⟩)
        · rw [if_neg hB, if_neg hB]
          exact ih (j + 1) f g τ1 _ _ (by omega) (by omega) (by omega) hm1 (Or.inr ⟨j, by omega, rfl, rfl⟩)
theorem st14 (k : Nat) : Step_14 (Rel k) (Rel (k + 1)) := by
  intro σ τ p q hr
  obtain ⟨α, ho, hc, hm⟩ := hr
  have hR : Rel (k + 1) σ τ := ⟨α, okA_mono ho, hc, hm⟩
  unfold f_X11_leastSaid f_X12_leastSaid
  rcases name_both ho hc hm p with ⟨n, hn, hn2, e, h1, h2⟩ | ⟨h1, h2⟩
  · rw [h1, h2, bnd2_e, bnd2_e, if_neg one_n0, if_neg one_n0]
    subst e
    rcases twelve_both q with ⟨w, hw, er, d1, d2⟩ | ⟨d1, d2⟩
    · rw [d1, d2, bnd1_e, bnd1_e, if_neg one_n0, if_neg one_n0]
      obtain ⟨σ1, a1, a2, a3⟩ := prepare_C ho hc hn
      obtain ⟨n1, n2, n3, n4⟩ := sz_C ho a2 hn
      have h64 := two6 n2
      rw [a1, bnd1_e]
      unfold f_X9_leastSet
      rw [chk_in n1 (by omega), nI_clamp (by omega), n4, chk_in (show (nmL (aN α) n).length < 7 by omega) (by omega), nI_clamp (by omega), e_hundA n2, bnd_e]
      obtain ⟨r, σ2, τ2, q1, q2, q3, q4, _⟩ := least_loop ho a2 hn a3 q (2 ^ (nmL (aN α) n).length) 0 256 256 τ (-2 : Int32) (0 : Int32) (by omega) (by omega) (by omega) hm (Or.inl rfl)
      have q1' : f_X9_leastSet_b27 256 σ1 (nI n) (-2 : Int32) (0 : Int32) (q.toInt64 * lN (100 ^ (nmL (aN α) n).length)) (0 : Int32) = some (r, σ2) := q1
      rw [q1', bnd2_e]
      exact ⟨r, σ2, τ2, rfl, q2, α, okA_mono ho, q3, q4⟩
    · rw [d1, d2]
      exact ⟨_, _, _, rfl, rfl, hR⟩
  · rw [h1, h2]
    exact ⟨_, _, _, rfl, rfl, hR⟩
