/-! class and model side by side -/
def Both {β : Type} (α : Ab) (P : β → Prop) (o1 o2 : Option (β × St)) : Prop := ∃ r σ' τ', o1 = some (r, σ') ∧ o2 = some (r, τ') ∧ AbsC α σ' ∧ AbsM α τ' ∧ P r
theorem both_rel {β : Type} {k : Nat} {α : Ab} {P : β → Prop} {o1 o2 : Option (β × St)} (ho : OkA k α) (h : Both α P o1 o2) : ∃ r σ' τ', o1 = some (r, σ') ∧ o2 = some (r, τ') ∧ Rel (k + 1) σ' τ' := by
  obtain ⟨r, σ', τ', h1, h2, h3, h4, _⟩ := h
  exact ⟨r, σ', τ', h1, h2, α, okA_mono ho, h3, h4⟩
theorem both_ret {β : Type} {α : Ab} {P : β → Prop} {r : β} {σ τ : St} (hc : AbsC α σ) (hm : AbsM α τ) (h : P r) : Both α P (some (r, σ)) (some (r, τ)) := ⟨r, σ, τ, rfl, rfl, hc, hm, h⟩
theorem both_bnd2 {β γ : Type} {α : Ab} {P : β → Prop} {Q : γ → Prop} {o1 o2 : Option (β × St)} {k1 k2 : β → St → Option (γ × St)} (h : Both α P o1 o2) (hk : ∀ r σ τ, AbsC α σ → AbsM α τ → P r → Both α Q (k1 r σ) (k2 r τ)) : Both α Q (bnd2 o1 k1) (bnd2 o2 k2) := by
  obtain ⟨r, σ', τ', h1, h2, h3, h4, h5⟩ := h
  rw [h1, h2, bnd2_e, bnd2_e]
  exact hk r σ' τ' h3 h4 h5
theorem parts0_C {α : Ab} {k1 : Nat} {σ : St} (ho : OkA k1 α) (hc : AbsC α σ) {s h : Nat} (hs : s < 12) (hh : h < 12) : ∃ σ', f_X5_parts σ (nI s) (nI h) (0 : Int32) = some (nI (ptN α s h 0), σ') ∧ FrC σ σ' ∧ AbsC α σ' := parts_C ho hc hs hh (k := 0) (by omega)
theorem part0_M {α : Ab} {k1 : Nat} {τ : St} (ho : OkA k1 α) (hm : AbsM α τ) {s h : Nat} (hs : s < 12) (hh : h < 12) : ∃ τ', f_X12_partOfHeard τ (nI s) (nI h).toInt64 (0 : Int32) = some (nI (ptN α s h 0), τ') ∧ FrM τ τ' ∧ AbsM α τ' := by
  rw [nI_l (show h < 2 ^ 31 by omega)]
  exact part_M ho hm hs hh (k := 0) (by omega)
theorem ltr_lt {k : Nat} {α : Ab} (ho : OkA k α) (n i : Nat) : ltr (aN α) n i < 12 := (oNm ho).2.2.1 n i
/-! 6 heard -/
theorem st6 (k : Nat) : Step_6 (Rel k) (Rel (k + 1)) := by
  intro σ τ p q r hr
  obtain ⟨α, ho, hc, hm⟩ := hr
  have hR : Rel (k + 1) σ τ := ⟨α, okA_mono ho, hc, hm⟩
  unfold f_X11_heard f_X12_heard
  rcases two_both p with ⟨s, h, hs, hh, e, e1, e2, b1, b2⟩ | ⟨b1, b2⟩
  · rw [b1, b2]
    simp only [bnd1_e, if_neg one_n0]
    rw [show f_X12_within q.toInt64 0 9 = some (tf (0 ≤ q ∧ q ≤ 9)) from w32 q 0 9]
    by_cases hq : 0 ≤ q ∧ q ≤ 9
    · obtain ⟨j, hj, eq⟩ := rng_of (n := 9) (by omega) hq
      rw [tf_t hq]
      simp only [if_neg (Int32.not_lt.mpr hq.1), if_neg (Int32.not_lt.mpr hq.2), bnd1_e, if_neg one_n0]
      rcases part_both r with ⟨w, hw, er, d1, d2⟩ | ⟨d1, d2⟩
      · rw [d1, d2]
        simp only [bnd1_e, if_neg one_n0, bnd_e]
        rw [e2, e1]
        subst eq
        subst er
        obtain ⟨σ1, x1, x2, x3⟩ := total_C ho hc hs (show j < 10 by omega)
        obtain ⟨τ1, y1, y2, y3, y4⟩ := asks_M ho hm hs (show j < 10 by omega)
        have hb := wsum_le α s j 12
        have hb2 := wt_le α s h j
        rw [x1, y1]
        simp only [bnd2_e]
        by_cases h0 : wsum α s j 12 = 0
        · simp only [if_pos ((nI_z (show wsum α s j 12 < 2 ^ 31 by omega)).mpr h0)]
          unfold f_X11_heard_b69
          by_cases e : s = h
          · simp only [if_pos (congrArg nI e)]
            rw [show f_X11_lowest (1 : Int64) (1 : Int64) (nI w) = some (frac 1 1 w) from e_lowest (a := 1) (b := 1) (by omega) (by omega) (by omega) hw]
            have e3 : frac 1 1 w = 1 := by
              unfold frac
              split <;> rfl
            rw [e3]
            exact ⟨_, _, _, rfl, rfl, α, okA_mono ho, x3, y3⟩
          · simp only [if_neg (fun z => e ((nI_eq (show s < 2 ^ 31 by omega) (show h < 2 ^ 31 by omega)).mp z))]
            rw [show f_X11_lowest (0 : Int64) (1 : Int64) (nI w) = some (frac 0 1 w) from e_lowest (a := 0) (b := 1) (by omega) (by omega) (by omega) hw]
            have e3 : frac 0 1 w = (nI w).toInt64 := by
              rcases (show w = 0 ∨ w = 1 by omega) with q | q <;> subst q <;> rfl
            rw [e3]
            exact ⟨_, _, _, rfl, rfl, α, okA_mono ho, x3, y3⟩
        · have hz : ¬ nI (wsum α s j 12) = 0 := fun z => h0 ((nI_z (by omega)).mp z)
          simp only [if_neg hz]
          obtain ⟨σ2, z1, z2, z3⟩ := weight_C ho x3 hs hh (show j < 10 by omega)
          rw [z1, chk_in hh (by omega), nI_clamp (show h < 2 ^ 31 by omega), y4 h hh]
          simp only [bnd2_e]
          rw [nI_l (show wt α s h j < 2 ^ 31 by omega), nI_l (show wsum α s j 12 < 2 ^ 31 by omega), fracRes (by omega) (by omega) (by omega) hw, e_partOf (by omega) (by omega) (by omega) hw]
          exact ⟨_, _, _, rfl, rfl, α, okA_mono ho, z3, y3⟩
      · rw [d1, d2]
        exact ⟨_, _, _, rfl, rfl, hR⟩
    · rw [tf_f hq]
      by_cases h1 : q < 0
      · simp only [if_pos h1]
        exact ⟨_, _, _, rfl, rfl, hR⟩
      · have h2 : (9 : Int32) < q := Int32.not_le.mp (fun z => hq ⟨Int32.not_lt.mp h1, z⟩)
        simp only [if_neg h1, if_pos h2]
        exact ⟨_, _, _, rfl, rfl, hR⟩
  · rw [b1, b2]
    exact ⟨_, _, _, rfl, rfl, hR⟩
/-! 15 worst -/
theorem worst_loop {k : Nat} {α : Ab} (ho : OkA k α) {n : Nat} (hn : n < (aN α).length) : ∀ m i b f g σ τ, i + m = (nmL (aN α) n).length → b < i → m < f → m < g → AbsC α σ → AbsM α τ → Both α (fun _ => True) (f_X9_weakest_b8 f σ (nI n) (nI b) (nI (ptN α (ltr (aN α) n b) (ltr (aN α) n b) 0)) (nI i)) (f_X12_worst_b14 g τ (nI n) (nI b) (nI i)) := by
  intro m
  induction m with
  | zero =>
    intro i b f g σ τ hi hb hf hg hc hm
    obtain ⟨f, rfl⟩ : ∃ x, f = x + 1 := ⟨f - 1, by omega⟩
    obtain ⟨g, rfl⟩ : ∃ x, g = x + 1 := ⟨g - 1, by omega⟩
    obtain ⟨n1, n2, n3, n4⟩ := sz_C ho hc hn
    obtain ⟨_, _, _, n5⟩ := sz_M ho hm hn
    rw [f_X9_weakest_b8, f_X12_worst_b14, chk_in n1 (by omega), chk_in n1 (by omega), nI_clamp (by omega), n4, n5, if_pos (nI_le (by omega) (by omega)), if_pos (nI_le (by omega) (by omega))]
    exact both_ret hc hm trivial
  | succ m ih =>
    intro i b f g σ τ hi hb hf hg hc hm
    obtain ⟨f, rfl⟩ : ∃ x, f = x + 1 := ⟨f - 1, by omega⟩
    obtain ⟨g, rfl⟩ : ∃ x, g = x + 1 := ⟨g - 1, by omega⟩
    obtain ⟨n1, n2, n3, n4⟩ := sz_C ho hc hn
    obtain ⟨_, _, _, n5⟩ := sz_M ho hm hn
    obtain ⟨σ1, x1, x2, x3⟩ := parts0_C ho hc (ltr_lt ho n i) (ltr_lt ho n i)
    obtain ⟨τ1, y1, y2, y3⟩ := part0_M ho hm (ltr_lt ho n i) (ltr_lt ho n i)
    obtain ⟨τ2, w1, w2, w3⟩ := part0_M ho y3 (ltr_lt ho n b) (ltr_lt ho n b)
    rw [f_X9_weakest_b8, f_X12_worst_b14, chk_in n1 (by omega), chk_in n1 (by omega), nI_clamp (by omega), n4, n5, if_neg (nI_ge (show i < (nmL (aN α) n).length by omega) (by omega)), if_neg (nI_ge (show i < (nmL (aN α) n).length by omega) (by omega)), e_X6_at ho hc hn (show i < (nmL (aN α) n).length by omega), bnd2_e, e_X6_at ho hc hn (show i < (nmL (aN α) n).length by omega), bnd2_e, x1, bnd2_e, e_X12_at1 ho hm hn (show i < (nmL (aN α) n).length by omega), bnd2_e, e_X12_at1 ho hm hn (show i < (nmL (aN α) n).length by omega), bnd2_e, y1, bnd2_e, e_X12_at1 ho y3 hn (show b < (nmL (aN α) n).length by omega), bnd2_e, e_X12_at1 ho y3 hn (show b < (nmL (aN α) n).length by omega), bnd2_e, w1, bnd2_e]
    by_cases hl : nI (ptN α (ltr (aN α) n b) (ltr (aN α) n b) 0) ≤ nI (ptN α (ltr (aN α) n i) (ltr (aN α) n i) 0)
    · rw [if_pos hl, if_pos hl, bnd_e, bnd_e, nI_p1]
      exact ih (i + 1) b f g σ1 τ2 (by omega) (by omega) (by omega) (by omega) x3 w3
    · rw [if_neg hl, if_neg hl, bnd_e, bnd_e, nI_p1]
      exact ih (i + 1) i f g σ1 τ2 (by omega) (by omega) (by omega) (by omega) x3 w3
theorem st15 (k : Nat) : Step_15 (Rel k) (Rel (k + 1)) := by
  intro σ τ p hr
  obtain ⟨α, ho, hc, hm⟩ := hr
  have hR : Rel (k + 1) σ τ := ⟨α, okA_mono ho, hc, hm⟩
  unfold f_X11_worst f_X12_worst
  rcases name_both ho hc hm p with ⟨n, hn, _, e, h1, h2⟩ | ⟨h1, h2⟩
  · rw [h1, h2, bnd2_e, bnd2_e, if_neg one_n0, if_neg one_n0]
    subst e
    unfold f_X9_weakest
    obtain ⟨n1, n2, n3, n4⟩ := sz_C ho hc hn
    obtain ⟨σ1, x1, x2, x3⟩ := parts0_C ho hc (ltr_lt ho n 0) (ltr_lt ho n 0)
    have hp := pt_le α (ltr (aN α) n 0) 0 (ltr_lt ho n 0)
    have hb := worst_loop ho hn ((nmL (aN α) n).length - 1) 1 0 255 256 σ1 τ (by omega) (by omega) (by omega) (by omega) x3 hm
    obtain ⟨r, σ2, τ2, q1, q2, q3, q4, _⟩ := hb
    have q1' : f_X9_weakest_b8 256 σ (nI n) (0 : Int32) (101 : Int32) (0 : Int32) = some (r, σ2) := by
      rw [f_X9_weakest_b8, chk_in n1 (by omega), nI_clamp (by omega), n4, if_neg (show ¬ nI (nmL (aN α) n).length ≤ (0 : Int32) from nI_ge (a := 0) (by omega) (by omega))]
      have e0 : f_X6_at σ (nI n) (0 : Int32) = some (nI (ltr (aN α) n 0), σ) := e_X6_at ho hc hn (i := 0) (by omega)
      rw [e0, bnd2_e, e0, bnd2_e, x1, bnd2_e, if_neg (show ¬ (101 : Int32) ≤ nI (ptN α (ltr (aN α) n 0) (ltr (aN α) n 0) 0) from nI_ge (b := 101) (by omega) (by omega)), bnd_e]
      exact q1
    rw [q1', bnd2_e]
    exact ⟨r, σ2, τ2, rfl, q2, α, okA_mono ho, q3, q4⟩
  · rw [h1, h2]
    exact ⟨_, _, _, rfl, rfl, hR⟩
/-! 20 stop -/
theorem stop_loop {k : Nat} {α : Ab} (ho : OkA k α) {n : Nat} (hn : n < (aN α).length) (x : Int32) : ∀ m i f g σ τ, i + m = (nmL (aN α) n).length → m < f → m < g → AbsC α σ → AbsM α τ → Both α (fun _ => True) (f_X9_stopsAt_b13 f σ (nI n) x (nI (nmL (aN α) n).length) (nI i)) (f_X12_stop_b24 g τ (nI n) x (nI i)) := by
  intro m
  induction m with
  | zero =>
    intro i f g σ τ hi hf hg hc hm
    obtain ⟨f, rfl⟩ : ∃ x, f = x + 1 := ⟨f - 1, by omega⟩
    obtain ⟨g, rfl⟩ : ∃ x, g = x + 1 := ⟨g - 1, by omega⟩
    obtain ⟨n1, n2, n3, n4⟩ := sz_C ho hc hn
    obtain ⟨_, _, _, n5⟩ := sz_M ho hm hn
    rw [f_X9_stopsAt_b13, f_X12_stop_b24, chk_in n1 (by omega), nI_clamp (by omega), n5, if_pos (nI_le (by omega) (by omega)), if_pos (nI_le (by omega) (by omega))]
    exact both_ret hc hm trivial
  | succ m ih =>
    intro i f g σ τ hi hf hg hc hm
    obtain ⟨f, rfl⟩ : ∃ x, f = x + 1 := ⟨f - 1, by omega⟩
    obtain ⟨g, rfl⟩ : ∃ x, g = x + 1 := ⟨g - 1, by omega⟩
    obtain ⟨n1, n2, n3, n4⟩ := sz_C ho hc hn
    obtain ⟨_, _, _, n5⟩ := sz_M ho hm hn
    have hl := ltr_lt ho n i
    obtain ⟨σ1, x1, x2, x3⟩ := parts0_C ho hc hl hl
    obtain ⟨τ1, y1, y2, y3⟩ := part0_M ho hm hl hl
    obtain ⟨_, _, _, n6⟩ := sz_M ho y3 hn
    have e154 : (154 : Int32) + nI (ltr (aN α) n i) = nI (154 + ltr (aN α) n i) := nI_add 154 _
    rw [f_X9_stopsAt_b13, f_X12_stop_b24, chk_in n1 (by omega), nI_clamp (show n < 2 ^ 31 by omega), n5, if_neg (nI_ge (show i < (nmL (aN α) n).length by omega) (by omega)), if_neg (nI_ge (show i < (nmL (aN α) n).length by omega) (by omega)), e_X6_at ho hc hn (show i < (nmL (aN α) n).length by omega), bnd2_e, chk_in hl (by omega), nI_clamp (show ltr (aN α) n i < 2 ^ 31 by omega), (hc.2.1.2.1 _ hl).1, bnd_e, x1, bnd2_e, bnd_e, e_X12_at1 ho hm hn (show i < (nmL (aN α) n).length by omega), bnd2_e, y1, bnd2_e]
    simp only [bnd_e]
    rw [e154, chk_in (show 154 + ltr (aN α) n i < 179 by omega) (by omega), chk_i2 n1 (by omega), nI_clamp (show 154 + ltr (aN α) n i < 2 ^ 31 by omega), (y3.2.1.2.1 _ hl).1, n6]
    by_cases hq : ((100 : Int32) - nI (ptN α (ltr (aN α) n i) (ltr (aN α) n i) 0)) * ((nI (nmL (aN α) n).length - nI i) + x) ≤ (100 : Int32) * (nI (aLG α (ltr (aN α) n i)) - (1 : Int32))
    · rw [if_pos hq, if_pos hq, nI_p1]
      exact ih (i + 1) f g σ1 τ1 (by omega) (by omega) (by omega) x3 y3
    · rw [if_neg hq, if_neg hq]
      exact both_ret x3 y3 trivial
theorem st20 (k : Nat) : Step_20 (Rel k) (Rel (k + 1)) := by
  intro σ τ p q hr
  obtain ⟨α, ho, hc, hm⟩ := hr
  have hR : Rel (k + 1) σ τ := ⟨α, okA_mono ho, hc, hm⟩
  unfold f_X11_stop f_X12_stop
  rcases name_both ho hc hm p with ⟨n, hn, _, e, h1, h2⟩ | ⟨h1, h2⟩
  · rw [h1, h2, bnd2_e, bnd2_e, if_neg one_n0, if_neg one_n0, show f_X12_within q.toInt64 0 99 = some (tf (0 ≤ q ∧ q ≤ 99)) from w32 q 0 99]
    subst e
    obtain ⟨n1, n2, n3, n4⟩ := sz_C ho hc hn
    by_cases hq : 0 ≤ q ∧ q ≤ 99
    · rw [tf_t hq, if_neg (Int32.not_lt.mpr hq.1), if_neg (Int32.not_lt.mpr hq.2), bnd1_e, if_neg one_n0]
      unfold f_X9_stopsAt
      rw [chk_in n1 (by omega), nI_clamp (by omega), n4, bnd_e]
      obtain ⟨r, σ2, τ2, q1, q2, q3, q4, _⟩ := stop_loop ho hn q (nmL (aN α) n).length 0 256 256 σ τ (by omega) (by omega) (by omega) hc hm
      have q1' : f_X9_stopsAt_b13 256 σ (nI n) q (nI (nmL (aN α) n).length) (0 : Int32) = some (r, σ2) := q1
      rw [q1', bnd2_e]
      exact ⟨r, σ2, τ2, rfl, q2, α, okA_mono ho, q3, q4⟩
    · rw [tf_f hq, bnd1_e, if_pos rfl]
      by_cases h1 : q < 0
      · rw [if_pos h1]
        exact ⟨_, _, _, rfl, rfl, hR⟩
      · have h2 : (99 : Int32) < q := Int32.not_le.mp (fun z => hq ⟨Int32.not_lt.mp h1, z⟩)
        rw [if_neg h1, if_pos h2]
        exact ⟨_, _, _, rfl, rfl, hR⟩
  · rw [h1, h2]
    exact ⟨_, _, _, rfl, rfl, hR⟩
