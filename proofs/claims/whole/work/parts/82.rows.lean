/-! 39 put, 40 element -/
theorem nI50 {t : Nat} (h1 : 1 ≤ t) (h2 : t ≤ 55) : (50 : Int32) ≤ nI (t - 1) ↔ 51 ≤ t := by
  rw [show (50 : Int32) = nI 50 from rfl, nI_leI (by omega) (by omega)]
  omega
theorem elem_both {k : Nat} {α : Ab} {σ τ : St} (ho : OkA k α) (hc : AbsC α σ) (hm : AbsM α τ) (p q : Int32) : (∃ d i, d < 6 ∧ p = nI d ∧ q = nI i ∧ 51 ≤ (aSH α d).1 ∧ i < (aSH α d).2.1 ∧ f_X11_refusedElement σ p q = some (0, σ) ∧ f_X12_refusal τ p q = some (0, τ)) ∨ (∃ r : Int32, ¬ r = 0 ∧ f_X11_refusedElement σ p q = some (r, σ) ∧ f_X12_refusal τ p q = some (r, τ)) := by
  unfold f_X11_refusedElement f_X12_refusal
  rcases shelf_both p with ⟨d, hd, e, h1, h2⟩ | ⟨h1, h2⟩
  · rw [h1, h2, bnd1_e, bnd1_e, if_neg one_n0, if_neg one_n0]
    subst e
    rw [chk_in hd (by omega), chk_in hd (by omega), nI_clamp (by omega), isEmpty_C ho hc hd, bnd2_e, sh_M ho hm hd]
    by_cases t0 : (aSH α d).1 = 0
    · rw [tf_t t0, if_neg one_n0, if_pos t0, if_neg neg1_nle]
      exact Or.inr ⟨-11, by decide, rfl, rfl⟩
    · have hb : (aSH α d).1 ≤ 55 := by rcases sh3 ho hd with z | z | z <;> omega
      rw [tf_f t0, if_pos rfl, if_neg t0, if_pos (nI_0le (by omega)), chk_i2 hd (by omega), chk_i2 hd (by omega), isRow_C ho hc hd, bnd2_e]
      by_cases t1 : 51 ≤ (aSH α d).1
      · obtain ⟨r1, r2, r3⟩ := row_C ho hc hd t1
        have r4 := (row_M hm hd t1).1
        rw [tf_t t1, if_neg one_n0, if_pos ((nI50 (by omega) hb).mpr t1), chk_i2 hd (by omega), chk_i2 hd (by omega), hasRun_C σ d r1 r2, bnd2_e, r4]
        by_cases hq : 0 ≤ q ∧ q < nI (aSH α d).2.1
        · obtain ⟨i, hi, ei⟩ := nI_of (Int32.not_lt.mpr hq.1)
          have h3 := hq.2
          rw [ei] at h3
          have h4 := (nI_ltI hi (by omega)).mp h3
          rw [tf_t hq, if_neg one_n0, if_neg (Int32.not_lt.mpr hq.1), if_neg (Int32.not_le.mpr hq.2)]
          exact Or.inl ⟨d, i, hd, rfl, ei, t1, h4, rfl, rfl⟩
        · rw [tf_f hq, if_pos rfl]
          refine Or.inr ⟨-13, by decide, rfl, ?_⟩
          by_cases h3 : q < 0
          · rw [if_pos h3]
          · rw [if_neg h3, if_pos (Int32.not_lt.mp (fun y => hq ⟨Int32.not_lt.mp h3, y⟩))]
      · rw [tf_f t1, if_pos rfl, if_neg (fun y => t1 ((nI50 (by omega) hb).mp y))]
        exact Or.inr ⟨-12, by decide, rfl, rfl⟩
  · rw [h1, h2, bnd1_e, bnd1_e, if_pos rfl, if_pos rfl]
    exact Or.inr ⟨-1, by decide, rfl, rfl⟩
theorem ix60 (d i : Nat) : (60 : Int32) * nI d + nI i = nI (60 * d + i) := by
  show nI 60 * nI d + nI i = _
  rw [pk_mul, nI_add]
theorem st40 (k : Nat) : Step_40 (Rel k) (Rel (k + 1)) := by
  intro σ τ p q hr
  obtain ⟨α, ho, hc, hm⟩ := hr
  have hR : Rel (k + 1) σ τ := ⟨α, okA_mono ho, hc, hm⟩
  unfold f_X11_element f_X12_element
  rcases elem_both ho hc hm p q with ⟨d, i, hd, ed, ei, ht, hi, h1, h2⟩ | ⟨r, hr, h1, h2⟩
  · obtain ⟨r1, r2, r3⟩ := row_C ho hc hd ht
    rw [h1, h2, bnd2_e, bnd2_e, if_pos rfl, if_pos rfl]
    subst ed
    subst ei
    rw [ix60, chk_in hd (by omega), chk_in (show i < 60 by omega) (by omega), chk_in (show 60 * d + i < 360 by omega) (by omega), nI_clamp (show d < 2 ^ 31 by omega), nI_clamp (show i < 2 ^ 31 by omega), nI_clamp (show 60 * d + i < 2 ^ 31 by omega), r3 i hi, (row_M hm hd ht).2 i hi]
    exact ⟨_, _, _, rfl, rfl, hR⟩
  · rw [h1, h2, bnd2_e, bnd2_e, if_neg hr, if_neg hr]
    exact ⟨_, _, _, rfl, rfl, hR⟩
def srtK (s : Nat) (v : Int64) : Int64 := if s = 0 then v.toInt32.toInt8.toInt32.toInt64 else if s = 1 then v.toInt32.toInt16.toInt32.toInt64 else if s = 2 then v.toInt32.toInt64 else if s = 3 then v else if v = 0 then 0 else 1
theorem st39 (k : Nat) : Step_39 (Rel k) (Rel (k + 1)) := by
  intro σ τ p q v hr
  obtain ⟨α, ho, hc, hm⟩ := hr
  have hR : Rel (k + 1) σ τ := ⟨α, okA_mono ho, hc, hm⟩
  unfold f_X11_put f_X12_put f_X12_put_b37
  rcases elem_both ho hc hm p q with ⟨d, i, hd, ed, ei, ht, hi, h1, h2⟩ | ⟨r, hr, h1, h2⟩
  · obtain ⟨r1, r2, r3⟩ := row_C ho hc hd ht
    have hs := (cSh hc d hd).2.2 ht
    have hb : (aSH α d).1 ≤ 55 := by rcases sh3 ho hd with z | z | z <;> omega
    rw [h1, h2, bnd2_e, bnd2_e, if_pos rfl, if_pos rfl]
    subst ed
    subst ei
    have eC : f_X8_cut σ d v = some (srtK ((aSH α d).1 - 51) v, σ) := by
      unfold f_X8_cut srtK
      rw [hs.2.1]
      rcases (show (aSH α d).1 - 51 = 0 ∨ (aSH α d).1 - 51 = 1 ∨ (aSH α d).1 - 51 = 2 ∨ (aSH α d).1 - 51 = 3 ∨ (aSH α d).1 - 51 = 4 by omega) with e | e | e | e | e
      · rw [e]; rfl
      · rw [e]; rfl
      · rw [e]; rfl
      · rw [e]; rfl
      · rw [e]
        rw [if_neg (show ¬ nI 4 = 0 by decide), if_neg (show ¬ nI 4 = 1 by decide), if_neg (show ¬ nI 4 = 2 by decide), if_neg (show ¬ nI 4 = 3 by decide), if_neg (show ¬ 4 = 0 by decide), if_neg (show ¬ 4 = 1 by decide), if_neg (show ¬ 4 = 2 by decide), if_neg (show ¬ 4 = 3 by decide)]
        by_cases h : v = 0
        · rw [if_pos h, if_pos h]
        · rw [if_neg h, if_neg h]
    have eM : f_X12_asSort (τ.2.2.1 639 0 d - 50) v = some (srtK ((aSH α d).1 - 51) v) := by
      rw [sh_M ho hm hd, if_neg (show ¬ (aSH α d).1 = 0 by omega), show nI ((aSH α d).1 - 1) - 50 = nI ((aSH α d).1 - 51) from by
        rw [show (50 : Int32) = nI 50 from rfl, pk_sub (by omega), show (aSH α d).1 - 1 - 50 = (aSH α d).1 - 51 by omega]]
      unfold f_X12_asSort srtK
      rcases (show (aSH α d).1 - 51 = 0 ∨ (aSH α d).1 - 51 = 1 ∨ (aSH α d).1 - 51 = 2 ∨ (aSH α d).1 - 51 = 3 ∨ (aSH α d).1 - 51 = 4 by omega) with e | e | e | e | e
      · rw [e]; rfl
      · rw [e]; rfl
      · rw [e]; rfl
      · rw [e]; rfl
      · rw [e]
        rw [if_neg (show ¬ nI 4 = 0 by decide), if_neg (show ¬ nI 4 = 1 by decide), if_neg (show ¬ nI 4 = 2 by decide), if_pos (show nI 4 = 4 by decide), if_neg (show ¬ 4 = 0 by decide), if_neg (show ¬ 4 = 1 by decide), if_neg (show ¬ 4 = 2 by decide), if_neg (show ¬ 4 = 3 by decide)]
        by_cases h : v = 0
        · rw [if_pos h, if_pos h]
        · rw [if_neg h, if_neg h]
    unfold f_X8_enter
    rw [ix60, chk_in hd (by omega), chk_in hd (by omega), nI_clamp (show d < 2 ^ 31 by omega), eC, bnd2_e, eM, bnd1_e, chk_in (show i < 60 by omega) (by omega), chk_in (show 60 * d + i < 360 by omega) (by omega), nI_clamp (show i < 2 ^ 31 by omega), nI_clamp (show 60 * d + i < 2 ^ 31 by omega)]
    simp only [bnd_e, bnd1_e, if_pos True.intro]
    refine ⟨1, _, _, rfl, rfl, uSH α (sU (aSH α) d ((aSH α d).1, (aSH α d).2.1, fun j => if j = i then srtK ((aSH α d).1 - 51) v else (aSH α d).2.2 j)), okA_mono (okA_SH ho (okS_U ho d (Or.inr (Or.inr ⟨ht, hb, r1⟩)))), ?_, ?_⟩
    · refine absC_SH hc (fun f o _ _ _ => rfl) rfl rfl (shC_mk (cSh hc) (fun j hj => ⟨rfl, rfl, rfl, if_neg (fun z => hj z.2)⟩) ⟨fun z => absurd (show (aSH α d).1 = 0 from z) (by omega), fun z => absurd (show (aSH α d).1 ≤ 50 from z.2) (by omega), fun _ => ⟨hs.1, hs.2.1, hs.2.2.1, fun j hj => ?_⟩⟩)
      refine (congrFun (if_pos ⟨rfl, rfl⟩) j).trans ?_
      show vp_updL (σ.2.2.2.1 400 d) i (srtK ((aSH α d).1 - 51) v) j = if j = i then srtK ((aSH α d).1 - 51) v else (aSH α d).2.2 j
      by_cases e : j = i
      · subst e; rw [pk_uLs, if_pos rfl]
      · rw [pk_uLn e, if_neg e]; exact r3 j hj
    · have hsm := mSh hm d hd
      refine absM_SH hm rfl (fun f o _ _ => rfl) (shM_mk ho (mSh hm) (fun j hj => ⟨rfl, fun _ => rfl⟩) (fun j x hj hx => pk_uLn (by omega)) ⟨fun z => absurd (show (aSH α d).1 = 0 from z) (by omega), fun _ => hsm.2.1 (by omega), fun _ => ⟨(hsm.2.2 ht).1, fun j hj => ?_⟩⟩)
      show vp_updL (τ.2.2.2.1 641 0) (60 * d + i) (srtK ((aSH α d).1 - 51) v) (60 * d + j) = if j = i then srtK ((aSH α d).1 - 51) v else (aSH α d).2.2 j
      by_cases e : j = i
      · subst e; rw [pk_uLs, if_pos rfl]
      · rw [pk_uLn (by omega), if_neg e]; exact (hsm.2.2 ht).2 j hj
  · rw [h1, h2, bnd2_e, bnd2_e, if_neg hr, if_neg hr, if_neg hr]
    exact ⟨_, _, _, rfl, rfl, hR⟩
/-! 42 taken -/
def abv (k : Nat) : Nat := if k = 3 then 2 else if k = 4 then 1 else if k = 5 then 3 else if k = 7 then 4 else 0
def undK : Nat → Nat → Nat → Bool
  | 0, k, p => k == p
  | n + 1, k, p => k == p || (k != 0 && undK n (abv k) p)
theorem under_C : ∀ k, k < 8 → ∀ p, p < 8 → f_X10_isUnder (nI k) (nI p) = some (tf (undK 8 k p = true)) := by decide +kernel
theorem above_M : ∀ k, k < 8 → f_X12_above (nI k) = some (nI (abv k)) := by decide +kernel
theorem abv_lt : ∀ k, k < 8 → abv k < 8 := by decide
theorem taken_M {τ : St} {x : Int32} {p : Nat} (hp : p < 8) : ∀ n k f, k < 8 → n < f → undK n k p = true → f_X12_taken_b58 f τ x (nI p) (nI k) = f_X12_taken_b75 τ x (nI p) (nI p) := by
  intro n
  induction n with
  | zero =>
    intro k f hk hf h
    have e : k = p := by
      have h2 : (k == p) = true := h
      exact eq_of_beq h2
    obtain ⟨f, rfl⟩ : ∃ x, f = x + 1 := ⟨f - 1, by omega⟩
    rw [f_X12_taken_b58, e, if_pos rfl]
  | succ n ih =>
    intro k f hk hf h
    obtain ⟨f, rfl⟩ : ∃ x, f = x + 1 := ⟨f - 1, by omega⟩
    by_cases e : k = p
    · rw [f_X12_taken_b58, e, if_pos rfl]
    · have h2 : (k == p || (k != 0 && undK n (abv k) p)) = true := h
      have h3 : (k == p) = false := by
        cases q : k == p with
        | false => rfl
        | true => exact absurd (eq_of_beq q) e
      rw [h3, Bool.false_or] at h2
      have h4 := (Bool.and_eq_true _ _).mp h2
      have hk0 : k ≠ 0 := by
        intro z
        subst z
        exact absurd h4.1 (by decide)
      rw [f_X12_taken_b58, if_neg (nI_lit_ne e (by omega) (by omega)), if_neg (nI_nle (by omega) (by omega)), above_M k hk, bnd1_e]
      exact ih (abv k) f (abv_lt k hk) (by omega) h4.2
theorem taken_M0 {τ : St} {x : Int32} {p : Nat} (hp : p < 8) : ∀ n k f, k < 8 → n < f → k ≤ n → undK n k p = false → ∃ k2, k2 < 8 ∧ k2 ≠ p ∧ f_X12_taken_b58 f τ x (nI p) (nI k) = f_X12_taken_b75 τ x (nI p) (nI k2) := by
  intro n
  induction n with
  | zero =>
    intro k f hk hf hkn h
    obtain ⟨f, rfl⟩ : ∃ x, f = x + 1 := ⟨f - 1, by omega⟩
    have e : k = 0 := by omega
    subst e
    have e2 : ¬ (0 : Nat) = p := by
      intro z
      have h2 : ((0 : Nat) == p) = false := h
      rw [z] at h2
      have : (p == p) = true := beq_self_eq_true p
      rw [this] at h2
      cases h2
    refine ⟨0, by omega, e2, ?_⟩
    rw [f_X12_taken_b58, if_neg (nI_lit_ne e2 (by omega) (by omega)), if_pos (show nI 0 ≤ 0 from Int32.le_refl _)]
  | succ n ih =>
    intro k f hk hf hkn h
    obtain ⟨f, rfl⟩ : ∃ x, f = x + 1 := ⟨f - 1, by omega⟩
    have h2 : (k == p || (k != 0 && undK n (abv k) p)) = false := h
    have h3 := (Bool.or_eq_false_iff).mp h2
    have e2 : ¬ k = p := by
      intro z
      have h4 := h3.1
      rw [z] at h4
      have : (p == p) = true := beq_self_eq_true p
      rw [this] at h4
      cases h4
    by_cases e0 : k = 0
    · subst e0
      refine ⟨0, by omega, e2, ?_⟩
      rw [f_X12_taken_b58, if_neg (nI_lit_ne e2 (by omega) (by omega)), if_pos (show nI 0 ≤ 0 from Int32.le_refl _)]
    · have h4 : undK n (abv k) p = false := by
        have h5 := h3.2
        have h6 : (k != 0) = true := by
          cases q : k != 0 with
          | true => rfl
          | false =>
            have := bne_eq_false_iff_eq.mp q
            exact absurd this e0
        rw [h6, Bool.true_and] at h5
        exact h5
      have ha : abv k ≤ n := by
        have : ∀ k, k < 8 → k ≠ 0 → abv k + 1 ≤ k := by decide
        have := this k hk e0
        omega
      rw [f_X12_taken_b58, if_neg (nI_lit_ne e2 (by omega) (by omega)), if_neg (nI_nle (by omega) (by omega)), above_M k hk, bnd1_e]
      exact ih (abv k) f (abv_lt k hk) (by omega) ha h4
theorem st42 (k : Nat) : Step_42 (Rel k) (Rel (k + 1)) := by
  intro σ τ p q hr
  obtain ⟨α, ho, hc, hm⟩ := hr
  have hR : Rel (k + 1) σ τ := ⟨α, okA_mono ho, hc, hm⟩
  unfold f_X11_taken f_X12_taken
  rcases shelf_both p with ⟨d, hd, e, h1, h2⟩ | ⟨h1, h2⟩
  · rw [h1, h2, bnd1_e, bnd1_e, if_neg one_n0, if_neg one_n0, show f_X12_within q.toInt64 0 7 = some (tf (0 ≤ q ∧ q ≤ 7)) from w32 q 0 7]
    subst e
    have e87 : q < 8 ↔ q ≤ 7 := (le_pred (n := 8) (by omega)).symm
    by_cases hq : 0 ≤ q ∧ q ≤ 7
    · obtain ⟨j, hj, ej⟩ := rng_of (n := 7) (by omega) hq
      rw [tf_t hq, if_neg (Int32.not_lt.mpr hq.1), if_pos (e87.mpr hq.2), bnd1_e, if_neg one_n0, chk_in hd (by omega), chk_in hd (by omega), nI_clamp (by omega), isEmpty_C ho hc hd, bnd2_e, sh_M ho hm hd]
      subst ej
      rcases sh3 ho hd with t | t | t
      · rw [tf_t t, if_neg one_n0, if_pos t, if_neg neg1_nle]
        exact ⟨_, _, _, rfl, rfl, hR⟩
      · have hs := (cSh hc d hd).2.1 ⟨t.1, t.2.2⟩
        have h50 := (oSp ho).1
        have hkd := (oSp ho).2.1 ((aSH α d).1 - 1)
        have hkc := (cSp hc).2.1 ((aSH α d).1 - 1) (by omega)
        have hkm := (mSp hm).2.1 ((aSH α d).1 - 1) (by omega)
        rw [tf_f (show ¬ (aSH α d).1 = 0 by omega), if_pos rfl, if_neg (show ¬ (aSH α d).1 = 0 by omega), if_pos (nI_0le (by omega)), chk_i2 hd (by omega), chk_i2 hd (by omega), isRow_C ho hc hd, bnd2_e, tf_f (show ¬ 51 ≤ (aSH α d).1 by omega), if_pos rfl, if_pos (show nI ((aSH α d).1 - 1) < 50 from nI_lt (b := 50) (by omega) (by omega)), hs, e_X10_has, (cSp hc).1, tf_t (rngT (show (aSH α d).1 - 1 < (aBK α).length by omega) (by omega)), bnd2_e, if_neg one_n0, hs, chk_in (show (aSH α d).1 - 1 < 50 by omega) (by omega), nI_clamp (by omega), hkc, bnd_e, under_C _ hkd _ (by omega), bnd1_e]
        have ek : f_X12_kindOf τ (nI ((aSH α d).1 - 1)) = some (nI ((aBK α).getD ((aSH α d).1 - 1) 0), τ) := by
          unfold f_X12_kindOf
          rw [chk_in (show (aSH α d).1 - 1 < 50 by omega) (by omega), nI_clamp (by omega), hkm]
        rw [ek, bnd2_e]
        cases hu : undK 8 ((aBK α).getD ((aSH α d).1 - 1) 0) j with
        | true =>
          have hM := (taken_M (τ := τ) (x := nI d) (show j < 8 by omega) 8 ((aBK α).getD ((aSH α d).1 - 1) 0) 256 hkd (by omega) hu)
          rw [hM, tf_t rfl, if_neg one_n0]
          unfold f_X12_taken_b75
          rw [if_pos rfl, chk_in hd (by omega), nI_clamp (by omega), sh_M ho hm hd, if_neg (show ¬ (aSH α d).1 = 0 by omega), ek, bnd2_e]
          exact ⟨_, _, _, rfl, rfl, hR⟩
        | false =>
          obtain ⟨k2, hk2, hne, hM⟩ := taken_M0 (τ := τ) (x := nI d) (show j < 8 by omega) 8 ((aBK α).getD ((aSH α d).1 - 1) 0) 256 hkd (by omega) (by omega) hu
          rw [hM, tf_f (fun h => (by cases h)), if_pos rfl]
          unfold f_X12_taken_b75
          rw [if_neg (nI_lit_ne hne (by omega) (by omega))]
          exact ⟨_, _, _, rfl, rfl, hR⟩
      · rw [tf_f (show ¬ (aSH α d).1 = 0 by omega), if_pos rfl, if_neg (show ¬ (aSH α d).1 = 0 by omega), if_pos (nI_0le (by omega)), chk_i2 hd (by omega), chk_i2 hd (by omega), isRow_C ho hc hd, bnd2_e, tf_t t.1, if_neg one_n0, if_neg (show ¬ nI ((aSH α d).1 - 1) < 50 from fun z => by
          have := (nI_ltI (b := 50) (by omega) (by omega)).mp z
          omega)]
        exact ⟨_, _, _, rfl, rfl, hR⟩
    · rw [tf_f hq, bnd1_e, if_pos rfl]
      by_cases h3 : q < 0
      · rw [if_pos h3]; exact ⟨_, _, _, rfl, rfl, hR⟩
      · rw [if_neg h3, if_neg (fun y => hq ⟨Int32.not_lt.mp h3, e87.mp y⟩)]; exact ⟨_, _, _, rfl, rfl, hR⟩
  · rw [h1, h2]
    exact ⟨_, _, _, rfl, rfl, hR⟩
