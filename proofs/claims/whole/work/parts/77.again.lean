/-! 11 again -/
def omN (α : Ab) (v : Nat → Nat) (pl h : Nat) : Nat → Nat → Nat → Nat
  | 0, _, most => most
  | m + 1, j, most => omN α v pl h m (j + 1) (if v j * ptN α (ltr (aN α) j pl) h 1 ≤ most then most else v j * ptN α (ltr (aN α) j pl) h 1)
def omH (α : Ab) (v : Nat → Nat) (pl : Nat) : Nat → Nat → Nat → Nat
  | 0, _, s => s
  | m + 1, h, s => omH α v pl m (h + 1) (s + omN α v pl h (aN α).length 0 0)
theorem vp_le {k : Nat} {α : Ab} (ho : OkA k α) {v : Nat → Nat} (hv : ∀ j, j < (aN α).length → v j ≤ 9000000000000) {j h : Nat} (hj : j < (aN α).length) (hh : h < 12) (s : Nat) : v j * ptN α s h 1 ≤ 900000000000000 := Nat.mul_le_mul (hv j hj) (pt_le α s 1 hh)
theorem omN_le {k : Nat} {α : Ab} (ho : OkA k α) {v : Nat → Nat} (hv : ∀ j, j < (aN α).length → v j ≤ 9000000000000) {pl h : Nat} (hh : h < 12) : ∀ m j most, j + m = (aN α).length → most ≤ 900000000000000 → omN α v pl h m j most ≤ 900000000000000
  | 0, _, _, _, hm => hm
  | m + 1, j, most, hj, hm => by
    rw [omN]
    refine omN_le ho hv hh m (j + 1) _ (by omega) ?_
    split
    · exact hm
    · exact vp_le ho hv (by omega) hh _
theorem omH_le {k : Nat} {α : Ab} (ho : OkA k α) {v : Nat → Nat} (hv : ∀ j, j < (aN α).length → v j ≤ 9000000000000) (pl : Nat) : ∀ m h s, h + m = 12 → s ≤ h * 900000000000000 → omH α v pl m h s ≤ 12 * 900000000000000
  | 0, h, s, hh, hs => by
    rw [omH]
    have : h = 12 := by omega
    subst this
    exact hs
  | m + 1, h, s, hh, hs => by
    rw [omH]
    refine omH_le ho hv pl m (h + 1) _ (by omega) ?_
    have := omN_le ho hv (pl := pl) (show h < 12 by omega) (aN α).length 0 0 (by omega) (by omega)
    omega
theorem parts1_C {α : Ab} {k1 : Nat} {σ : St} (ho : OkA k1 α) (hc : AbsC α σ) {s h : Nat} (hs : s < 12) (hh : h < 12) : ∃ σ', f_X5_parts σ (nI s) (nI h) (1 : Int32) = some (nI (ptN α s h 1), σ') ∧ FrC σ σ' ∧ AbsC α σ' := parts_C ho hc hs hh (k := 1) (by omega)
theorem part1_M {α : Ab} {k1 : Nat} {τ : St} (ho : OkA k1 α) (hm : AbsM α τ) {s h : Nat} (hs : s < 12) (hh : h < 12) : ∃ τ', f_X12_partOfHeard τ (nI s) (nI h).toInt64 (1 : Int32) = some (nI (ptN α s h 1), τ') ∧ FrM τ τ' ∧ AbsM α τ' := by
  rw [nI_l (show h < 2 ^ 31 by omega)]
  exact part_M ho hm hs hh (k := 1) (by omega)
theorem pr_size {α : Ab} {d n : Nat} (h : ¬ prN α d n = 0) : (nmL (aN α) n).length = (aSH α d).2.1 := by
  unfold prN at h
  by_cases e : (nmL (aN α) n).length = (aSH α d).2.1
  · exact e
  · rw [if_neg e] at h; exact absurd rfl h
theorem onceN_C {k : Nat} {α : Ab} (ho : OkA k α) {d pl h s : Nat} (hpl : pl < (aSH α d).2.1) (h6 : (aSH α d).2.1 ≤ 60) (hh : h < 12) {K : St → Int32 → Int64 → Int32 → Option (Int64 × St)} : ∀ m j most f σ, j + m = (aN α).length → m < f → most ≤ 900000000000000 → InvW α (prN α d) (aN α).length σ → ∃ σ', f_X3_onceMore_b18 K f σ (nI pl) (lN s) (nI h) (lN most) (nI j) = K σ' (nI pl) (lN (s + omN α (prN α d) pl h m j most)) (nI (h + 1)) ∧ InvW α (prN α d) (aN α).length σ' := by
  have hl := (oNm ho).1
  intro m
  induction m with
  | zero =>
    intro j most f σ hi hf hmo hI
    obtain ⟨f, rfl⟩ : ∃ x, f = x + 1 := ⟨f - 1, by omega⟩
    rw [f_X3_onceMore_b18, hI.1.1.1, if_pos (nI_le (by omega) (by omega)), bnd_e, bnd_e, nI_p1, lN_add]
    exact ⟨σ, rfl, hI⟩
  | succ m ih =>
    intro j most f σ hi hf hmo hI
    obtain ⟨f, rfl⟩ : ∃ x, f = x + 1 := ⟨f - 1, by omega⟩
    have hj : j < (aN α).length := by omega
    have hj10 : j < 10 := by omega
    have hv := pr_le ho d hj
    obtain ⟨n1, n2, n3, n4⟩ := sz_C ho hI.1 hj
    rw [f_X3_onceMore_b18, hI.1.1.1, if_neg (nI_ge hj (by omega))]
    simp only [chk_in hj10 (show 10 ≤ 2000000000 by omega), hI.2.1 j hj, bnd_e, nI_p1]
    simp only [nI_clamp (show j < 2 ^ 31 by omega), hI.2.1 j hj, bnd_e, nI_p1]
    rw [omN, n4]
    by_cases h0 : prN α d j = 0
    · rw [if_pos (show lN (prN α d j) ≤ (0 : Int64) by rw [h0]; exact Int64.le_refl _), h0, Nat.zero_mul, if_pos (Nat.zero_le _)]
      exact ih (j + 1) most f σ (by omega) (by omega) hmo hI
    · have hz : ¬ lN (prN α d j) ≤ (0 : Int64) := fun z => by
        have := (pk_lLE (b := 0) (by omega) (by omega)).mp z
        omega
      have hsz := pr_size h0
      have hpt := pt_le α (ltr (aN α) j pl) 1 hh
      obtain ⟨σ1, x1, x2, x3⟩ := parts1_C ho hI.1 (ltr_lt ho j pl) hh
      rw [if_neg hz, if_neg (nI_ge (show pl < (nmL (aN α) j).length by omega) (by omega)), e_X6_at ho hI.1 hj (show pl < (nmL (aN α) j).length by omega), bnd2_e, x1, bnd2_e, nI_l (show ptN α (ltr (aN α) j pl) h 1 < 2 ^ 31 by omega), lN_mul]
      have hvp := vp_le ho (v := prN α d) (fun j hj => pr_le ho d hj) hj hh (ltr (aN α) j pl)
      by_cases hq : prN α d j * ptN α (ltr (aN α) j pl) h 1 ≤ most
      · rw [if_pos hq]
        have e : (if lN (prN α d j * ptN α (ltr (aN α) j pl) h 1) < lN most then lN most else lN (prN α d j * ptN α (ltr (aN α) j pl) h 1)) = lN most := by
          by_cases e : prN α d j * ptN α (ltr (aN α) j pl) h 1 < most
          · rw [if_pos ((pk_lLT (by omega) (by omega)).mpr e)]
          · rw [if_neg (fun z => e ((pk_lLT (by omega) (by omega)).mp z)), show prN α d j * ptN α (ltr (aN α) j pl) h 1 = most by omega]
        rw [e]
        exact ih (j + 1) most f σ1 (by omega) (by omega) hmo (hI.fr x2 x3)
      · rw [if_neg hq, if_neg (fun z => hq (by have := (pk_lLT (by omega) (by omega)).mp z; omega))]
        exact ih (j + 1) _ f σ1 (by omega) (by omega) hvp (hI.fr x2 x3)
theorem onceH_C {k : Nat} {α : Ab} (ho : OkA k α) {d pl : Nat} (hpl : pl < (aSH α d).2.1) (h6 : (aSH α d).2.1 ≤ 60) : ∀ m h s f σ, h + m = 12 → m < f → InvW α (prN α d) (aN α).length σ → ∃ σ', f_X3_onceMore_b5 f σ (nI pl) (lN s) (nI h) = some (lN (omH α (prN α d) pl m h s), σ') ∧ InvW α (prN α d) (aN α).length σ' := by
  have hl := (oNm ho).1
  intro m
  induction m with
  | zero =>
    intro h s f σ hi hf hI
    obtain ⟨f, rfl⟩ : ∃ x, f = x + 1 := ⟨f - 1, by omega⟩
    have e : h = 12 := by omega
    subst e
    rw [f_X3_onceMore_b5, if_pos (show (12 : Int32) ≤ nI 12 from Int32.le_refl _)]
    exact ⟨σ, rfl, hI⟩
  | succ m ih =>
    intro h s f σ hi hf hI
    obtain ⟨f, rfl⟩ : ∃ x, f = x + 1 := ⟨f - 1, by omega⟩
    have hh : h < 12 := by omega
    obtain ⟨σ1, x1, x2⟩ := onceN_C ho (s := s) hpl h6 hh (K := f_X3_onceMore_b5 f) (aN α).length 0 0 256 σ (by omega) (by omega) (by omega) hI
    have x1' : f_X3_onceMore_b18 (f_X3_onceMore_b5 f) 256 σ (nI pl) (lN s) (nI h) (0 : Int64) (0 : Int32) = _ := x1
    rw [f_X3_onceMore_b5, if_neg (show ¬ (12 : Int32) ≤ nI h from nI_ge (b := 12) hh (by omega)), x1', omH]
    exact ih (h + 1) _ f σ1 (by omega) (by omega) x2
theorem onceMore_C {k : Nat} {α : Ab} {σ : St} (ho : OkA k α) {d pl : Nat} (hpl : pl < (aSH α d).2.1) (h6 : (aSH α d).2.1 ≤ 60) (hI : InvW α (prN α d) (aN α).length σ) : ∃ σ', f_X3_onceMore σ (nI pl) = some (lN (omH α (prN α d) pl 12 0 0), σ') ∧ InvW α (prN α d) (aN α).length σ' := onceH_C ho hpl h6 12 0 0 256 σ (by omega) (by omega) hI
theorem againN_M {k : Nat} {α : Ab} (ho : OkA k α) {d pl h s : Nat} (hpl : pl < (aSH α d).2.1) (h6 : (aSH α d).2.1 ≤ 60) (hh : h < 12) {K : St → Int32 → Int64 → Int32 → Option (Int64 × St)} : ∀ m j most f τ, j + m = (aN α).length → m < f → most ≤ 900000000000000 → InvP α (prN α d) (aN α).length τ → ∃ τ', f_X12_againAt_b18 K f τ (nI pl) (lN s) (nI h) (lN most) (nI j) = K τ' (nI pl) (lN (s + omN α (prN α d) pl h m j most)) (nI (h + 1)) ∧ InvP α (prN α d) (aN α).length τ' := by
  have hl := (oNm ho).1
  intro m
  induction m with
  | zero =>
    intro j most f τ hi hf hmo hI
    obtain ⟨f, rfl⟩ : ∃ x, f = x + 1 := ⟨f - 1, by omega⟩
    rw [f_X12_againAt_b18, hI.1.1.1, if_pos (nI_le (by omega) (by omega)), bnd_e, bnd_e, nI_p1, lN_add]
    exact ⟨τ, rfl, hI⟩
  | succ m ih =>
    intro j most f τ hi hf hmo hI
    obtain ⟨f, rfl⟩ : ∃ x, f = x + 1 := ⟨f - 1, by omega⟩
    have hj : j < (aN α).length := by omega
    have hj10 : j < 10 := by omega
    have hv := pr_le ho d hj
    rw [f_X12_againAt_b18, hI.1.1.1, if_neg (nI_ge hj (by omega))]
    simp only [chk_in hj10 (show 10 ≤ 2000000000 by omega), hI.2 j hj]
    simp only [nI_clamp (show j < 2 ^ 31 by omega), hI.2 j hj]
    unfold f_X12_againAt_b67
    simp only [bnd_e, nI_p1]
    rw [omN]
    by_cases h0 : prN α d j = 0
    · rw [if_pos ((lN_z (by omega)).mpr h0), if_pos (show (0 : Int64) ≤ lN most from (pk_lLE (a := 0) (by omega) (by omega)).mpr (Nat.zero_le _)), h0, Nat.zero_mul, if_pos (Nat.zero_le _)]
      exact ih (j + 1) most f τ (by omega) (by omega) hmo hI
    · have hsz := pr_size h0
      have hpt := pt_le α (ltr (aN α) j pl) 1 hh
      obtain ⟨τ1, x1, x2, x3⟩ := part1_M ho hI.1 (ltr_lt ho j pl) hh
      rw [if_neg (fun z => h0 ((lN_z (by omega)).mp z)), e_X12_at1 ho hI.1 hj (show pl < (nmL (aN α) j).length by omega), bnd2_e, x1, bnd2_e, nI_l (show ptN α (ltr (aN α) j pl) h 1 < 2 ^ 31 by omega), lN_mul]
      have hvp := vp_le ho (v := prN α d) (fun j hj => pr_le ho d hj) hj hh (ltr (aN α) j pl)
      by_cases hq : prN α d j * ptN α (ltr (aN α) j pl) h 1 ≤ most
      · rw [if_pos hq, if_pos ((pk_lLE (by omega) (by omega)).mpr hq)]
        exact ih (j + 1) most f τ1 (by omega) (by omega) hmo (hI.fr x2 x3)
      · rw [if_neg hq, if_neg (fun z => hq ((pk_lLE (by omega) (by omega)).mp z))]
        exact ih (j + 1) _ f τ1 (by omega) (by omega) hvp (hI.fr x2 x3)
theorem againH_M {k : Nat} {α : Ab} (ho : OkA k α) {d pl : Nat} (hpl : pl < (aSH α d).2.1) (h6 : (aSH α d).2.1 ≤ 60) : ∀ m h s f τ, h + m = 12 → m < f → InvP α (prN α d) (aN α).length τ → ∃ τ', f_X12_againAt_b5 f τ (nI pl) (lN s) (nI h) = some (lN (omH α (prN α d) pl m h s), τ') ∧ InvP α (prN α d) (aN α).length τ' := by
  have hl := (oNm ho).1
  intro m
  induction m with
  | zero =>
    intro h s f τ hi hf hI
    obtain ⟨f, rfl⟩ : ∃ x, f = x + 1 := ⟨f - 1, by omega⟩
    have e : h = 12 := by omega
    subst e
    rw [f_X12_againAt_b5, if_pos (show (12 : Int32) ≤ nI 12 from Int32.le_refl _)]
    exact ⟨τ, rfl, hI⟩
  | succ m ih =>
    intro h s f τ hi hf hI
    obtain ⟨f, rfl⟩ : ∃ x, f = x + 1 := ⟨f - 1, by omega⟩
    have hh : h < 12 := by omega
    obtain ⟨τ1, x1, x2⟩ := againN_M ho (s := s) hpl h6 hh (K := f_X12_againAt_b5 f) (aN α).length 0 0 256 τ (by omega) (by omega) (by omega) hI
    have x1' : f_X12_againAt_b18 (f_X12_againAt_b5 f) 256 τ (nI pl) (lN s) (nI h) (0 : Int64) (0 : Int32) = _ := x1
    rw [f_X12_againAt_b5, if_neg (show ¬ (12 : Int32) ≤ nI h from nI_ge (b := 12) hh (by omega)), x1', omH]
    exact ih (h + 1) _ f τ1 (by omega) (by omega) x2
theorem againAt_M {k : Nat} {α : Ab} {τ : St} (ho : OkA k α) {d pl : Nat} (hpl : pl < (aSH α d).2.1) (h6 : (aSH α d).2.1 ≤ 60) (hI : InvP α (prN α d) (aN α).length τ) : ∃ τ', f_X12_againAt τ (nI pl) = some (lN (omH α (prN α d) pl 12 0 0), τ') ∧ InvP α (prN α d) (aN α).length τ' := againH_M ho hpl h6 12 0 0 256 τ (by omega) (by omega) hI
/-- how likely, if the LETTER at a place is said once more -/
def omP (α : Ab) (d pl : Nat) : Nat := omH α (prN α d) pl 12 0 0
theorem om_le {k : Nat} {α : Ab} (ho : OkA k α) (d pl : Nat) : omP α d pl ≤ 12 * 900000000000000 := omH_le ho (fun j hj => pr_le ho d hj) pl 12 0 0 rfl (by omega)
def omst (α : Ab) (d i : Nat) : Int64 := if i = 0 then -1 else lN (omP α d (bstN (omP α d) i))
theorem om_cmp {k : Nat} {α : Ab} (ho : OkA k α) (d i : Nat) : (lN (omP α d i) ≤ omst α d i → bstN (omP α d) (i + 1) = bstN (omP α d) i ∧ omst α d (i + 1) = omst α d i) ∧ (¬ lN (omP α d i) ≤ omst α d i → bstN (omP α d) (i + 1) = i ∧ omst α d (i + 1) = lN (omP α d i)) := by
  have h1 := om_le ho d i
  have h2 := om_le ho d (bstN (omP α d) i)
  have e1 : omst α d (i + 1) = lN (omP α d (bstN (omP α d) (i + 1))) := if_neg (by omega)
  rw [e1, bstN]
  unfold omst
  by_cases h0 : i = 0
  · subst h0
    rw [if_pos rfl]
    constructor
    · intro h
      rw [fa_le64, pk_lT (by omega)] at h
      have : ((-1 : Int64)).toInt = -1 := by decide
      rw [this] at h
      omega
    · intro _
      have e : (if omP α d 0 ≤ omP α d (bstN (omP α d) 0) then bstN (omP α d) 0 else 0) = 0 := by split <;> rfl
      rw [e]
      exact ⟨rfl, rfl⟩
  · rw [if_neg h0, pk_lLE (by omega) (by omega)]
    constructor
    · intro h
      rw [if_pos h]
      exact ⟨rfl, rfl⟩
    · intro h
      rw [if_neg h]
      exact ⟨rfl, rfl⟩
theorem place_C {k : Nat} {α : Ab} (ho : OkA k α) {d : Nat} (h6 : (aSH α d).2.1 ≤ 6) : ∀ m i f σ, i + m = (aSH α d).2.1 → m < f → InvW α (prN α d) (aN α).length σ → ∃ σ', f_X3_placeToAsk_b9 f σ (nI (aSH α d).2.1) (nI (bstN (omP α d) i)) (omst α d i) (nI i) = some (nI (bstN (omP α d) (aSH α d).2.1), σ') ∧ InvW α (prN α d) (aN α).length σ' := by
  intro m
  induction m with
  | zero =>
    intro i f σ hi hf hI
    obtain ⟨f, rfl⟩ : ∃ x, f = x + 1 := ⟨f - 1, by omega⟩
    have e : i = (aSH α d).2.1 := by omega
    subst e
    rw [f_X3_placeToAsk_b9, if_pos (nI_le (Nat.le_refl _) (by omega))]
    exact ⟨σ, rfl, hI⟩
  | succ m ih =>
    intro i f σ hi hf hI
    obtain ⟨f, rfl⟩ : ∃ x, f = x + 1 := ⟨f - 1, by omega⟩
    obtain ⟨σ1, x1, x2⟩ := onceMore_C ho (show i < (aSH α d).2.1 by omega) (by omega) hI
    obtain ⟨g1, g2⟩ := om_cmp ho d i
    rw [f_X3_placeToAsk_b9, if_neg (nI_ge (show i < (aSH α d).2.1 by omega) (by omega)), if_neg (show ¬ (6 : Int32) ≤ nI i from nI_ge (b := 6) (by omega) (by omega)), x1, bnd2_e]
    simp only [bnd_e, nI_p1]
    have ih2 := ih (i + 1) f σ1 (by omega) (by omega) x2
    by_cases hq : lN (omH α (prN α d) i 12 0 0) ≤ omst α d i
    · rw [if_pos hq]
      rw [(g1 hq).1, (g1 hq).2] at ih2
      exact ih2
    · rw [if_neg hq]
      rw [(g2 hq).1, (g2 hq).2] at ih2
      exact ih2
theorem place_M {k : Nat} {α : Ab} (ho : OkA k α) {d : Nat} (hd : d < 6) (ht : (aSH α d).1 = 51) (h60 : (aSH α d).2.1 ≤ 60) (q : Int32) (a : Int64) : ∀ m i f τ, i + m = (aSH α d).2.1 → m < f → InvP α (prN α d) (aN α).length τ → ∃ τ', f_X12_again_b52 f τ (nI d) q a (nI (bstN (omP α d) i)) (omst α d i) (nI i) = (if q = 2 then some ((nI (bstN (omP α d) (aSH α d).2.1)).toInt64, τ') else bnd1 (f_X12_partOf (omst α d (aSH α d).2.1) (100 * a) q) (fun r => some (r, τ'))) ∧ InvP α (prN α d) (aN α).length τ' := by
  intro m
  induction m with
  | zero =>
    intro i f τ hi hf hI
    obtain ⟨f, rfl⟩ : ∃ x, f = x + 1 := ⟨f - 1, by omega⟩
    have e : i = (aSH α d).2.1 := by omega
    subst e
    rw [f_X12_again_b52, chk_in hd (by omega), nI_clamp (by omega), (row_M hI.1 hd (by omega)).1, if_pos (nI_le (Nat.le_refl _) (by omega))]
    exact ⟨τ, rfl, hI⟩
  | succ m ih =>
    intro i f τ hi hf hI
    obtain ⟨f, rfl⟩ : ∃ x, f = x + 1 := ⟨f - 1, by omega⟩
    obtain ⟨τ1, x1, x2⟩ := againAt_M ho (show i < (aSH α d).2.1 by omega) h60 hI
    obtain ⟨g1, g2⟩ := om_cmp ho d i
    rw [f_X12_again_b52, chk_in hd (by omega), nI_clamp (by omega), (row_M hI.1 hd (by omega)).1, if_neg (nI_ge (show i < (aSH α d).2.1 by omega) (by omega)), x1, bnd2_e]
    unfold f_X12_again_b86
    simp only [bnd_e, nI_p1]
    have ih2 := ih (i + 1) f τ1 (by omega) (by omega) x2
    by_cases hq : lN (omH α (prN α d) i 12 0 0) ≤ omst α d i
    · rw [if_pos hq, if_pos hq]
      rw [(g1 hq).1, (g1 hq).2] at ih2
      exact ih2
    · rw [if_neg hq, if_neg hq]
      rw [(g2 hq).1, (g2 hq).2] at ih2
      exact ih2
theorem sums_ex {v : Nat → Nat} : ∀ {n}, ¬ smsN v n = 0 → ∃ j, j < n ∧ ¬ v j = 0
  | 0, h => absurd rfl h
  | n + 1, h => by
    by_cases e : v n = 0
    · rw [smsN, e] at h
      obtain ⟨j, hj, hv⟩ := sums_ex (v := v) (n := n) h
      exact ⟨j, by omega, hv⟩
    · exact ⟨n, by omega, e⟩
theorem again_mid {k : Nat} {α : Ab} {σ τ : St} (ho : OkA k α) (hc : AbsC α σ) (hm : AbsM α τ) (p q : Int32) (hq : q = 2 ∨ ∃ w, w < 2 ∧ q = nI w) : ∃ r σ' τ', f_X11_again_b12 σ p q = some (r, σ') ∧ bnd2 (f_X12_bytesIs τ p) (fun r2 σ3 => if r2 = (1 : Int32) then (bnd2 (f_X12_asksProducts σ3 p) (fun r9 σ10 => if r9 = (0 : Int64) then (some ((-2 : Int64), σ10)) else (f_X12_again_b52 256 σ10 p q r9 (0 : Int32) (-1 : Int64) (0 : Int32)))) else (some ((-9223372036854775808 : Int64), σ3))) = some (r, τ') ∧ Rel (k + 1) σ' τ' := by
  have hR : Rel (k + 1) σ τ := ⟨α, okA_mono ho, hc, hm⟩
  unfold f_X11_again_b12
  rcases bytes_both ho hc hm p with ⟨d, hd, ed, ht, b1, b2⟩ | ⟨b, hb, b1, b2⟩
  · rw [b1, b2, bnd2_e, bnd2_e, if_pos rfl, if_pos rfl]
    subst ed
    obtain ⟨σ1, x1, x2⟩ := weigh_C ho hc hd ht (-1)
    obtain ⟨τ1, y1, y2⟩ := prods_M ho hm hd ht
    rw [pc_m1] at x2
    have hsb := sums_b ho d
    rw [chk_in hd (by omega), nI_clamp (by omega), x1, bnd1_e, x2.2.2, y1, bnd2_e]
    by_cases h0 : smsN (prN α d) (aN α).length = 0
    · rw [if_pos ((lN_z (by omega)).mpr h0), if_pos ((lN_z (by omega)).mpr h0)]
      exact ⟨_, _, _, rfl, rfl, α, okA_mono ho, x2.1, y2.1⟩
    · have hz : ¬ lN (smsN (prN α d) (aN α).length) = 0 := fun z => h0 ((lN_z (by omega)).mp z)
      obtain ⟨j, hj, hvj⟩ := sums_ex h0
      have hsz := pr_size hvj
      obtain ⟨n1, n2, n3, n4⟩ := sz_C ho hc hj
      have h60 : (aSH α d).2.1 ≤ 60 := by omega
      have h6 : (aSH α d).2.1 ≤ 6 := by omega
      rw [if_neg hz, if_neg hz, chk_i2 hd (by omega), (row_C ho x2.1 hd (by omega)).2.1]
      obtain ⟨σ2, z1, z2⟩ := place_C ho h6 (aSH α d).2.1 0 256 σ1 (by omega) (by omega) x2
      have z1' : f_X3_placeToAsk σ1 (nI (aSH α d).2.1) = _ := z1
      obtain ⟨τ2, w1, w2⟩ := place_M ho hd ht h60 q (lN (smsN (prN α d) (aN α).length)) (aSH α d).2.1 0 256 τ1 (by omega) (by omega) y2
      have w1' : f_X12_again_b52 256 τ1 (nI d) q (lN (smsN (prN α d) (aN α).length)) (0 : Int32) (-1 : Int64) (0 : Int32) = _ := w1
      rw [z1', bnd2_e, w1']
      rcases hq with hq | ⟨w, hw, hq⟩
      · rw [if_pos hq, if_pos hq]
        exact ⟨_, _, _, rfl, rfl, α, okA_mono ho, z2.1, w2.1⟩
      · have hq2 : ¬ q = 2 := by rw [hq]; exact nI_lit_ne (m := 2) (by omega) (by omega) (by omega)
        have hbl := bst_lt (omP α d) (n := (aSH α d).2.1) (by omega)
        obtain ⟨σ3, u1, u2⟩ := onceMore_C ho hbl h60 z2
        have e1 : omst α d (aSH α d).2.1 = lN (omP α d (bstN (omP α d) (aSH α d).2.1)) := if_neg (by omega)
        have e2 : omH α (prN α d) (bstN (omP α d) (aSH α d).2.1) 12 0 0 = omP α d (bstN (omP α d) (aSH α d).2.1) := rfl
        have ob := om_le ho d (bstN (omP α d) (aSH α d).2.1)
        rw [if_neg hq2, if_neg hq2, u1, bnd2_e, u2.2.2, e1, e2, hq, show (100 : Int64) * lN (smsN (prN α d) (aN α).length) = lN (100 * smsN (prN α d) (aN α).length) from lN_mul 100 _, fracRes (by omega) (by omega) (by omega) hw, e_partOf (by omega) (by omega) (by omega) hw]
        exact ⟨_, _, _, rfl, rfl, α, okA_mono ho, u2.1, w2.1⟩
  · have hb3 := tri_ne hb
    rw [b1, b2, bnd2_e, bnd2_e, if_neg hb3.1, if_neg hb3.2.1]
    exact ⟨_, _, _, rfl, rfl, hR⟩
theorem st11 (k : Nat) : Step_11 (Rel k) (Rel (k + 1)) := by
  intro σ τ p q hr
  obtain ⟨α, ho, hc, hm⟩ := hr
  have hR : Rel (k + 1) σ τ := ⟨α, okA_mono ho, hc, hm⟩
  unfold f_X11_again f_X12_again
  rw [show f_X12_within q.toInt64 0 2 = some (tf (0 ≤ q ∧ q ≤ 2)) from w32 q 0 2]
  by_cases h : 0 ≤ q ∧ q ≤ 2
  · obtain ⟨j, hj, e⟩ := rng_of (n := 2) (by omega) h
    rw [tf_t h]
    simp only [bnd1_e, if_neg one_n0]
    by_cases h2 : j = 2
    · have e2 : q = 2 := by rw [e, h2]; rfl
      rw [e_X11_fractionPart, tf_f (show ¬ (q = 0 ∨ q = 1) by rw [e2]; decide), bnd1_e, if_pos rfl, if_pos e2]
      exact again_mid ho hc hm p q (Or.inl e2)
    · have e2 : q = 0 ∨ q = 1 := by
        rcases (show j = 0 ∨ j = 1 by omega) with z | z
        · left; rw [e, z]; rfl
        · right; rw [e, z]; rfl
      rw [e_X11_fractionPart, tf_t e2, bnd1_e, if_neg one_n0]
      exact again_mid ho hc hm p q (Or.inr ⟨j, by omega, e⟩)
  · rw [tf_f h]
    have h1 : ¬ (q = 0 ∨ q = 1) := by
      intro z
      rcases z with z | z
      · subst z; exact h (by decide)
      · subst z; exact h (by decide)
    have h2 : ¬ q = 2 := fun z => by subst z; exact h (by decide)
    rw [e_X11_fractionPart, tf_f h1, bnd1_e, if_pos rfl, if_neg h2]
    simp only [bnd1_e, if_pos True.intro, ite_self]
    have hx : ∃ b, f_X12_bytesIs τ p = some (b, τ) := by
      rcases bytes_both ho hc hm p with ⟨d, hd, ed, ht, b1, b2⟩ | ⟨b, hb, b1, b2⟩
      · exact ⟨_, b2⟩
      · exact ⟨_, b2⟩
    obtain ⟨b, b2⟩ := hx
    rw [b2, bnd2_e]
    exact ⟨_, _, _, rfl, rfl, hR⟩
