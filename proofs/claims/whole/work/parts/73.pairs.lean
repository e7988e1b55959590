/-! HEARD as another NAME -/
theorem mul_step {a b i : Nat} (h1 : a ≤ 100 ^ i) (h2 : b ≤ 100) : a * b ≤ 100 ^ (i + 1) := by
  rw [Nat.pow_succ]
  exact Nat.mul_le_mul h1 h2
theorem pow6 {n : Nat} (h : n ≤ 6) : 100 ^ n ≤ 1000000000000 := Nat.pow_le_pow_right (n := 100) (by decide) h
def Small (r : Int64) : Prop := ∃ v, r = lN v ∧ v ≤ 1000000000000
theorem heardAs_loop {k : Nat} {α : Ab} (ho : OkA k α) {a b : Nat} (ha : a < (aN α).length) (hb : b < (aN α).length) (hab : (nmL (aN α) a).length = (nmL (aN α) b).length) : ∀ m i acc f g σ τ, i + m = (nmL (aN α) a).length → acc ≤ 100 ^ i → m < f → m < g → AbsC α σ → AbsM α τ → Both α Small (f_X9_heardAs_b5 f σ (nI a) (nI b) (lN acc) (nI i)) (f_X12_heardAs_b5 g τ (nI a) (nI b) (lN acc) (nI i)) := by
  intro m
  induction m with
  | zero =>
    intro i acc f g σ τ hi hacc hf hg hc hm
    obtain ⟨f, rfl⟩ : ∃ x, f = x + 1 := ⟨f - 1, by omega⟩
    obtain ⟨g, rfl⟩ : ∃ x, g = x + 1 := ⟨g - 1, by omega⟩
    obtain ⟨n1, n2, n3, n4⟩ := sz_C ho hc ha
    obtain ⟨_, _, _, n5⟩ := sz_M ho hm ha
    rw [f_X9_heardAs_b5, f_X12_heardAs_b5, chk_in n1 (by omega), chk_in n1 (by omega), nI_clamp (by omega), n4, n5, if_pos (nI_le (by omega) (by omega)), if_pos (nI_le (by omega) (by omega))]
    exact both_ret hc hm ⟨acc, rfl, Nat.le_trans hacc (pow6 (by omega))⟩
  | succ m ih =>
    intro i acc f g σ τ hi hacc hf hg hc hm
    obtain ⟨f, rfl⟩ : ∃ x, f = x + 1 := ⟨f - 1, by omega⟩
    obtain ⟨g, rfl⟩ : ∃ x, g = x + 1 := ⟨g - 1, by omega⟩
    obtain ⟨n1, n2, n3, n4⟩ := sz_C ho hc ha
    obtain ⟨_, _, _, n5⟩ := sz_M ho hm ha
    obtain ⟨σ1, x1, x2, x3⟩ := parts0_C ho hc (ltr_lt ho a i) (ltr_lt ho b i)
    obtain ⟨τ1, y1, y2, y3⟩ := part0_M ho hm (ltr_lt ho a i) (ltr_lt ho b i)
    have hp := pt_le α (ltr (aN α) a i) 0 (ltr_lt ho b i)
    rw [f_X9_heardAs_b5, f_X12_heardAs_b5, chk_in n1 (by omega), chk_in n1 (by omega), nI_clamp (by omega), n4, n5, if_neg (nI_ge (show i < (nmL (aN α) a).length by omega) (by omega)), if_neg (nI_ge (show i < (nmL (aN α) a).length by omega) (by omega)), e_X6_at ho hc ha (show i < (nmL (aN α) a).length by omega), bnd2_e, e_X6_at ho hc hb (show i < (nmL (aN α) b).length by omega), bnd2_e, x1, bnd2_e, e_X12_at1 ho hm ha (show i < (nmL (aN α) a).length by omega), bnd2_e, e_X12_at1 ho hm hb (show i < (nmL (aN α) b).length by omega), bnd2_e, y1, bnd2_e, nI_l (show ptN α (ltr (aN α) a i) (ltr (aN α) b i) 0 < 2 ^ 31 by omega), lN_mul, nI_p1]
    simp only [bnd_e]
    exact ih (i + 1) _ f g σ1 τ1 (by omega) (mul_step hacc hp) (by omega) (by omega) x3 y3
theorem heardAs_both {k : Nat} {α : Ab} {σ τ : St} (ho : OkA k α) (hc : AbsC α σ) (hm : AbsM α τ) {a b : Nat} (ha : a < (aN α).length) (hb : b < (aN α).length) (hab : (nmL (aN α) a).length = (nmL (aN α) b).length) : Both α Small (f_X9_heardAs σ (nI a) (nI b)) (f_X12_heardAs τ (nI a) (nI b)) := by
  have h6 := ((oNm ho).2.1 a ha).2
  exact heardAs_loop ho ha hb hab (nmL (aN α) a).length 0 1 256 256 σ τ (by omega) (Nat.le_refl _) (by omega) (by omega) hc hm
theorem even_both {k : Nat} {α : Ab} {σ τ : St} (ho : OkA k α) (hc : AbsC α σ) (hm : AbsM α τ) (p q : Int32) : (∃ a b, a < (aN α).length ∧ b < (aN α).length ∧ p = nI a ∧ q = nI b ∧ (nmL (aN α) a).length = (nmL (aN α) b).length ∧ f_X6_areEven σ p q = some (1, σ) ∧ f_X12_areTwo τ p q = some (tf (p ≠ q), τ)) ∨ (f_X6_areEven σ p q = some (0, σ) ∧ f_X12_areTwo τ p q = some (0, τ)) := by
  unfold f_X6_areEven f_X6_areEven0 f_X12_areTwo f_X12_areTwo0
  rcases name_both ho hc hm p with ⟨a, ha, ha2, ea, h1, h2⟩ | ⟨h1, h2⟩
  · rw [h1, h2, bnd2_e, bnd2_e, if_neg one_n0, if_neg one_n0]
    rcases name_both ho hc hm q with ⟨b, hb, hb2, eb, h3, h4⟩ | ⟨h3, h4⟩
    · rw [h3, h4, bnd2_e, bnd2_e, if_neg one_n0, if_neg one_n0]
      subst ea
      subst eb
      have n4 := (sz_C ho hc ha).2.2.2
      have n5 := (sz_C ho hc hb).2.2.2
      have n6 := (sz_M ho hm ha).2.2.2
      have n7 := (sz_M ho hm hb).2.2.2
      have g1 := (sz_C ho hc ha).2.1
      have g2 := (sz_C ho hc hb).2.1
      rw [chk_in ha2 (by omega), chk_in hb2 (by omega), chk_in ha2 (by omega), chk_in hb2 (by omega), nI_clamp (by omega), nI_clamp (by omega), n4, n5, n6, n7]
      by_cases hq : (nmL (aN α) a).length = (nmL (aN α) b).length
      · rw [if_pos (congrArg nI hq), if_pos (congrArg nI hq)]
        refine Or.inl ⟨a, b, ha, hb, rfl, rfl, hq, rfl, ?_⟩
        by_cases e : nI a = nI b
        · rw [if_pos e, tf_f (fun z => z e)]; rfl
        · rw [if_neg e, tf_t e]; rfl
      · have hq2 : ¬ nI (nmL (aN α) a).length = nI (nmL (aN α) b).length := fun z => hq ((nI_eq (by omega) (by omega)).mp z)
        rw [if_neg hq2, if_neg hq2]
        refine Or.inr ⟨rfl, ?_⟩
        rw [ite_self]
        rfl
    · rw [h3, h4]
      exact Or.inr ⟨rfl, rfl⟩
  · rw [h1, h2]
    exact Or.inr ⟨rfl, rfl⟩
/-! 16 confused -/
theorem st16 (k : Nat) : Step_16 (Rel k) (Rel (k + 1)) := by
  intro σ τ p q hr
  obtain ⟨α, ho, hc, hm⟩ := hr
  have hR : Rel (k + 1) σ τ := ⟨α, okA_mono ho, hc, hm⟩
  unfold f_X11_confused f_X12_confused
  simp only [bnd_e]
  by_cases h0 : p < 0
  · simp only [if_pos h0]
    exact ⟨_, _, _, rfl, rfl, hR⟩
  · simp only [if_neg h0]
    rcases even_both ho hc hm (p / 10) (p - p / 10 * 10) with ⟨a, b, ha, hb, e1, e2, hab, h1, h2⟩ | ⟨h1, h2⟩
    · rw [h1, h2, e2, e1]
      simp only [bnd2_e, if_neg one_n0]
      by_cases e : nI a = nI b
      · rw [if_pos e, tf_f (fun z => z e)]
        simp only [if_pos True.intro]
        exact ⟨_, _, _, rfl, rfl, hR⟩
      · rw [if_neg e, tf_t e]
        simp only [if_neg one_n0]
        rcases part_both q with ⟨w, hw, er, d1, d2⟩ | ⟨d1, d2⟩
        · rw [d1, d2]
          simp only [bnd1_e, if_neg one_n0]
          obtain ⟨r, σ1, τ1, x1, x2, x3, x4, v, x5, x6⟩ := heardAs_both ho hc hm ha hb hab
          obtain ⟨n1, n2, n3, n4⟩ := sz_C ho x3 ha
          have n5 := (sz_M ho x4 ha).2.2.2
          rw [x1, x2]
          simp only [bnd2_e]
          rw [chk_in n1 (by omega), chk_in n1 (by omega), nI_clamp (by omega), n4, n5, chk_in (show (nmL (aN α) a).length < 7 by omega) (by omega), nI_clamp (by omega), e_powerOf n2, e_hundA n2, bnd1_e, x5, er]
          have hpw := pow6 n2
          have hpp : 0 < 100 ^ (nmL (aN α) a).length := Nat.pow_pos (by decide)
          rw [fracRes (by omega) hpp (by omega) hw, e_partOf (by omega) hpp (by omega) hw]
          exact ⟨_, _, _, rfl, rfl, α, okA_mono ho, x3, x4⟩
        · rw [d1, d2]
          exact ⟨_, _, _, rfl, rfl, hR⟩
    · rw [h1, h2]
      simp only [bnd2_e, if_pos True.intro, ite_self]
      exact ⟨_, _, _, rfl, rfl, hR⟩
/-! 17 nearest -/
theorem m1_le {r : Int64} (h : Small r) : (-1 : Int64) ≤ r := by
  obtain ⟨v, e, hv⟩ := h
  rw [e, fa_le64, pk_lT (by omega)]
  show (-1 : Int) ≤ (v : Int)
  omega
theorem near_loop {k : Nat} {α : Ab} (ho : OkA k α) {n : Nat} (hn : n < (aN α).length) : ∀ m i f g σ τ x y, i + m = (aN α).length → m < f → m < g → AbsC α σ → AbsM α τ → (-1 : Int64) ≤ y → Both α (fun _ => True) (f_X9_closestTo_b10 f σ (nI n) x y (nI i)) (f_X12_nearest_b20 g τ (nI n) x y (nI i)) := by
  have hl := (oNm ho).1
  intro m
  induction m with
  | zero =>
    intro i f g σ τ x y hi hf hg hc hm hy
    obtain ⟨f, rfl⟩ : ∃ x, f = x + 1 := ⟨f - 1, by omega⟩
    obtain ⟨g, rfl⟩ : ∃ x, g = x + 1 := ⟨g - 1, by omega⟩
    rw [f_X9_closestTo_b10, f_X12_nearest_b20, hc.1.1, hm.1.1, if_pos (nI_le (by omega) (by omega)), if_pos (nI_le (by omega) (by omega))]
    exact both_ret hc hm trivial
  | succ m ih =>
    intro i f g σ τ x y hi hf hg hc hm hy
    obtain ⟨f, rfl⟩ : ∃ x, f = x + 1 := ⟨f - 1, by omega⟩
    obtain ⟨g, rfl⟩ : ∃ x, g = x + 1 := ⟨g - 1, by omega⟩
    have skip : ∀ σ1 τ1, AbsC α σ1 → AbsM α τ1 → Both α (fun _ => True) (f_X9_closestTo_b10 f σ1 (nI n) x y (nI (i + 1))) (f_X12_nearest_b52 (f_X12_nearest_b20 g) τ1 (nI n) x y (nI i) (-1 : Int64)) := by
      intro σ1 τ1 q1 q2
      unfold f_X12_nearest_b52 f_X12_nearest_b67
      rw [if_pos hy, if_pos hy, bnd_e, nI_p1]
      exact ih (i + 1) f g σ1 τ1 x y (by omega) (by omega) (by omega) q1 q2 hy
    rw [f_X9_closestTo_b10, f_X12_nearest_b20, hc.1.1, hm.1.1, if_neg (nI_ge (show i < (aN α).length by omega) (by omega)), if_neg (nI_ge (show i < (aN α).length by omega) (by omega))]
    simp only [bnd_e, nI_p1]
    rcases even_both ho hc hm (nI n) (nI i) with ⟨a, b, ha, hb, e1, e2, hab, h1, h2⟩ | ⟨h1, h2⟩
    · rw [h1, h2]
      simp only [bnd2_e]
      by_cases e : nI i = nI n
      · rw [if_pos e, tf_f (fun z => z e.symm)]
        simp only [if_pos True.intro]
        exact skip σ τ hc hm
      · rw [if_neg e, tf_t (show nI n ≠ nI i from fun z => e z.symm)]
        simp only [if_neg one_n0]
        have hai : n = a := (nI_eq (by omega) (by omega)).mp e1
        have hbi : i = b := (nI_eq (by omega) (by omega)).mp e2
        subst hai
        subst hbi
        refine both_bnd2 (heardAs_both ho hc hm ha hb hab) ?_
        intro r σ1 τ1 q1 q2 q3
        unfold f_X12_nearest_b52 f_X12_nearest_b67
        by_cases hq : r ≤ y
        · simp only [if_pos hq, bnd_e, nI_p1]
          exact ih (i + 1) f g σ1 τ1 x y (by omega) (by omega) (by omega) q1 q2 hy
        · simp only [if_neg hq, bnd_e, nI_p1]
          exact ih (i + 1) f g σ1 τ1 (nI i) r (by omega) (by omega) (by omega) q1 q2 (m1_le q3)
    · rw [h1, h2]
      simp only [bnd2_e, if_pos True.intro, ite_self]
      exact skip σ τ hc hm
theorem st17 (k : Nat) : Step_17 (Rel k) (Rel (k + 1)) := by
  intro σ τ p hr
  obtain ⟨α, ho, hc, hm⟩ := hr
  have hR : Rel (k + 1) σ τ := ⟨α, okA_mono ho, hc, hm⟩
  have hl := (oNm ho).1
  unfold f_X11_nearest f_X12_nearest
  rcases name_both ho hc hm p with ⟨n, hn, _, e, h1, h2⟩ | ⟨h1, h2⟩
  · rw [h1, h2, bnd2_e, bnd2_e, if_neg one_n0, if_neg one_n0]
    subst e
    obtain ⟨r, σ2, τ2, q1, q2, q3, q4, _⟩ := near_loop ho hn (aN α).length 0 256 256 σ τ (-2 : Int32) (-1 : Int64) (by omega) (by omega) (by omega) hc hm (by decide)
    have q1' : f_X9_closestTo σ (nI n) = some (r, σ2) := q1
    rw [q1', bnd2_e]
    exact ⟨r, σ2, τ2, rfl, q2, α, okA_mono ho, q3, q4⟩
  · rw [h1, h2]
    exact ⟨_, _, _, rfl, rfl, hR⟩
/-! 18 pairs -/
theorem pairs_in {k : Nat} {α : Ab} (ho : OkA k α) {a : Nat} (ha : a < (aN α).length) {k1 k2 : St → Int32 → Int64 → Int32 → Option (Int32 × St)} (hk : ∀ σ τ x y, AbsC α σ → AbsM α τ → Both α (fun _ => True) (k1 σ x y (nI (a + 1))) (k2 τ x y (nI (a + 1)))) : ∀ m i f g σ τ x y, i + m = (aN α).length → a < i → m < f → m < g → AbsC α σ → AbsM α τ → Both α (fun _ => True) (f_X9_closestPair_b28 k1 f σ x y (nI a) (nI i)) (f_X12_pairs_b25 k2 g τ x y (nI a) (nI i)) := by
  have hl := (oNm ho).1
  intro m
  induction m with
  | zero =>
    intro i f g σ τ x y hi hai hf hg hc hm
    obtain ⟨f, rfl⟩ : ∃ x, f = x + 1 := ⟨f - 1, by omega⟩
    obtain ⟨g, rfl⟩ : ∃ x, g = x + 1 := ⟨g - 1, by omega⟩
    rw [f_X9_closestPair_b28, f_X12_pairs_b25, hc.1.1, hm.1.1, if_pos (nI_le (by omega) (by omega)), if_pos (nI_le (by omega) (by omega)), bnd_e, bnd_e, nI_p1]
    exact hk σ τ x y hc hm
  | succ m ih =>
    intro i f g σ τ x y hi hai hf hg hc hm
    obtain ⟨f, rfl⟩ : ∃ x, f = x + 1 := ⟨f - 1, by omega⟩
    obtain ⟨g, rfl⟩ : ∃ x, g = x + 1 := ⟨g - 1, by omega⟩
    rw [f_X9_closestPair_b28, f_X12_pairs_b25, hc.1.1, hm.1.1, if_neg (nI_ge (show i < (aN α).length by omega) (by omega)), if_neg (nI_ge (show i < (aN α).length by omega) (by omega))]
    simp only [bnd_e, nI_p1]
    rcases even_both ho hc hm (nI a) (nI i) with ⟨a2, b, ha2, hb, e1, e2, hab, h1, h2⟩ | ⟨h1, h2⟩
    · have ea : a = a2 := (nI_eq (by omega) (by omega)).mp e1
      have eb : i = b := (nI_eq (by omega) (by omega)).mp e2
      subst ea
      subst eb
      rw [h1, h2, tf_t (show nI a ≠ nI i from nI_lit_ne (show a ≠ i by omega) (by omega) (by omega))]
      simp only [bnd2_e, if_neg one_n0]
      refine both_bnd2 (heardAs_both ho hc hm ha hb hab) ?_
      intro r1 σ1 τ1 q1 q2 q3
      refine both_bnd2 (heardAs_both ho q1 q2 hb ha hab.symm) ?_
      intro r2 σ2 τ2 w1 w2 w3
      obtain ⟨n1, n2, n3, n4⟩ := sz_C ho w1 ha
      have n5 := (sz_M ho w2 ha).2.2.2
      have e6 : (6 : Int32) - nI (nmL (aN α) a).length = nI (6 - (nmL (aN α) a).length) := pk_sub (a := 6) n2
      rw [chk_in n1 (by omega), chk_in n1 (by omega), nI_clamp (by omega), n4, n5, e6, chk_in (show 6 - (nmL (aN α) a).length < 7 by omega) (by omega), nI_clamp (by omega), e_powerOf (show 6 - (nmL (aN α) a).length ≤ 6 by omega), e_hundA (show 6 - (nmL (aN α) a).length ≤ 6 by omega), bnd1_e]
      unfold f_X12_pairs_b97
      by_cases hq : (r1 + r2) * lN (100 ^ (6 - (nmL (aN α) a).length)) ≤ y
      · simp only [if_pos hq, bnd_e, nI_p1]
        exact ih (i + 1) f g σ2 τ2 x y (by omega) (by omega) (by omega) (by omega) w1 w2
      · simp only [if_neg hq, bnd_e, nI_p1]
        exact ih (i + 1) f g σ2 τ2 _ _ (by omega) (by omega) (by omega) (by omega) w1 w2
    · rw [h1, h2]
      simp only [bnd2_e, if_pos True.intro]
      exact ih (i + 1) f g σ τ x y (by omega) (by omega) (by omega) (by omega) hc hm
theorem pairs_out {k : Nat} {α : Ab} (ho : OkA k α) : ∀ m a f g σ τ x y, a + m = (aN α).length → m < f → m < g → AbsC α σ → AbsM α τ → Both α (fun _ => True) (f_X9_closestPair_b10 f σ x y (nI a)) (f_X12_pairs_b10 g τ x y (nI a)) := by
  have hl := (oNm ho).1
  intro m
  induction m with
  | zero =>
    intro a f g σ τ x y hi hf hg hc hm
    obtain ⟨f, rfl⟩ : ∃ x, f = x + 1 := ⟨f - 1, by omega⟩
    obtain ⟨g, rfl⟩ : ∃ x, g = x + 1 := ⟨g - 1, by omega⟩
    rw [f_X9_closestPair_b10, f_X12_pairs_b10, hc.1.1, hm.1.1, if_pos (nI_le (by omega) (by omega)), if_pos (nI_le (by omega) (by omega))]
    exact both_ret hc hm trivial
  | succ m ih =>
    intro a f g σ τ x y hi hf hg hc hm
    obtain ⟨f, rfl⟩ : ∃ x, f = x + 1 := ⟨f - 1, by omega⟩
    obtain ⟨g, rfl⟩ : ∃ x, g = x + 1 := ⟨g - 1, by omega⟩
    rw [f_X9_closestPair_b10, f_X12_pairs_b10, hc.1.1, hm.1.1, if_neg (nI_ge (show a < (aN α).length by omega) (by omega)), if_neg (nI_ge (show a < (aN α).length by omega) (by omega))]
    simp only [bnd_e, nI_p1]
    exact pairs_in ho (show a < (aN α).length by omega) (fun σ τ x y q1 q2 => ih (a + 1) f g σ τ x y (by omega) (by omega) (by omega) q1 q2) m (a + 1) 256 256 σ τ x y (by omega) (by omega) (by omega) (by omega) hc hm
theorem st18 (k : Nat) : Step_18 (Rel k) (Rel (k + 1)) := by
  intro σ τ hr
  obtain ⟨α, ho, hc, hm⟩ := hr
  have hl := (oNm ho).1
  unfold f_X11_pairs f_X12_pairs
  obtain ⟨r, σ2, τ2, q1, q2, q3, q4, _⟩ := pairs_out ho (aN α).length 0 256 256 σ τ (-2 : Int32) (-1 : Int64) (by omega) (by omega) (by omega) hc hm
  have q1' : f_X9_closestPair σ = some (r, σ2) := q1
  rw [q1', bnd2_e]
  exact ⟨r, σ2, τ2, rfl, q2, α, okA_mono ho, q3, q4⟩
