/-! how many LETTERS are missing, how many wrong, from place i on -/
def cM (d : DD) (i : Nat) : Nat → Nat
  | 0 => 0
  | m + 1 => (if d.2.1 i = 0 then 1 else 0) + cM d (i + 1) m
def cW (N : List (List Nat)) (d : DD) (n i : Nat) : Nat → Nat
  | 0 => 0
  | m + 1 => (if d.2.1 i ≠ 0 ∧ d.2.2.1 i ≠ ltr N n i then 1 else 0) + cW N d n (i + 1) m
theorem missing_loop {k : Nat} {α : Ab} {σ : St} (hk : k < 512) (ho : OkA k α) (hc : AbsC α σ) {n : Nat} (hn : n < (aN α).length) (z : (aD α).1 = nI n) : ∀ m i c f, i + m = (nmL (aN α) n).length → m < f → f_X1_missing_b4 f σ 0 (nI c) (nI i) = some (nI (c + cM (aD α) i m), σ) := by
  have hl := (oNm ho).1
  have h6 := ((oNm ho).2.1 n hn).2
  have e52 : σ.1 52 0 = nI n := (cDe hc).1.trans z
  have hd := (cDe hc).2.2.2.2.2 (by rw [z]; exact nI_nm1 (by omega))
  intro m
  induction m with
  | zero =>
    intro i c f hi hf
    obtain ⟨g, rfl⟩ : ∃ g, f = g + 1 := ⟨f - 1, by omega⟩
    rw [f_X1_missing_b4, e52, if_neg (nI_n0 (by omega)), chk_e (in_nI (show n < 10 by omega) (by omega)), nI_clamp (by omega), (hc.1.2 n hn).1, if_pos (nI_le (by omega) (by omega))]
    rfl
  | succ m ih =>
    intro i c f hi hf
    obtain ⟨g, rfl⟩ : ∃ g, f = g + 1 := ⟨f - 1, by omega⟩
    have hb := (oDe ho).2.1 i
    have e1 : nI i + 1 = nI (i + 1) := nI_add i 1
    have e2 : nI c + 1 = nI (c + 1) := nI_add c 1
    rw [f_X1_missing_b4, e52, if_neg (nI_n0 (by omega)), chk_e (in_nI (show n < 10 by omega) (by omega)), nI_clamp (show n < 2 ^ 31 by omega), (hc.1.2 n hn).1, if_neg (Int32.not_le.mpr (nI_lt (by omega) (by omega))), chk_e (in_nI (show i < 6 by omega) (by omega)), nI_clamp (show i < 2 ^ 31 by omega), (hd.2 i (by omega)).1, cM]
    simp only [bnd_e]
    rw [e1, e2]
    by_cases h4 : (aD α).2.1 i = 0
    · rw [if_pos (show nI ((aD α).2.1 i) = 0 by rw [h4]; rfl), if_pos h4, ih (i + 1) (c + 1) g (by omega) (by omega), Nat.add_assoc]
    · rw [if_neg (show ¬ nI ((aD α).2.1 i) = 0 from fun w => h4 ((nI_eq (b := 0) (by omega) (by omega)).mp w)), if_neg h4, ih (i + 1) c g (by omega) (by omega), Nat.zero_add]
theorem wrong_loop {k : Nat} {α : Ab} {σ : St} (hk : k < 512) (ho : OkA k α) (hc : AbsC α σ) {n : Nat} (hn : n < (aN α).length) (z : (aD α).1 = nI n) : ∀ m i c f, i + m = (nmL (aN α) n).length → m < f → f_X1_wrong_b4 f σ 0 (nI c) (nI i) = some (nI (c + cW (aN α) (aD α) n i m), σ) := by
  have hl := (oNm ho).1
  have h6 := ((oNm ho).2.1 n hn).2
  have e52 : σ.1 52 0 = nI n := (cDe hc).1.trans z
  have hd := (cDe hc).2.2.2.2.2 (by rw [z]; exact nI_nm1 (by omega))
  intro m
  induction m with
  | zero =>
    intro i c f hi hf
    obtain ⟨g, rfl⟩ : ∃ g, f = g + 1 := ⟨f - 1, by omega⟩
    rw [f_X1_wrong_b4, e52, if_neg (nI_n0 (by omega)), chk_e (in_nI (show n < 10 by omega) (by omega)), nI_clamp (by omega), (hc.1.2 n hn).1, if_pos (nI_le (by omega) (by omega))]
    rfl
  | succ m ih =>
    intro i c f hi hf
    obtain ⟨g, rfl⟩ : ∃ g, f = g + 1 := ⟨f - 1, by omega⟩
    have hb := (oDe ho).2.1 i
    have hb2 := (oDe ho).2.2 i
    have hb3 := (oNm ho).2.2.1 n i
    have e1 : nI i + 1 = nI (i + 1) := nI_add i 1
    have e2 : nI c + 1 = nI (c + 1) := nI_add c 1
    rw [f_X1_wrong_b4, e52, if_neg (nI_n0 (by omega)), chk_e (in_nI (show n < 10 by omega) (by omega)), nI_clamp (show n < 2 ^ 31 by omega), (hc.1.2 n hn).1, if_neg (Int32.not_le.mpr (nI_lt (by omega) (by omega))), chk_e (in_nI (show i < 6 by omega) (by omega)), chk_e (in_nI (show i < 6 by omega) (by omega)), nI_clamp (show i < 2 ^ 31 by omega), (hd.2 i (by omega)).1, e_X6_at ho hc hn (by omega), cW]
    simp only [bnd_e, bnd2_e]
    rw [e1, e2]
    by_cases h4 : (aD α).2.1 i = 0
    · rw [if_pos (show nI ((aD α).2.1 i) ≤ 0 by rw [h4]; decide), if_neg (fun w => w.1 h4), ih (i + 1) c g (by omega) (by omega), Nat.zero_add]
    · rw [if_neg (show ¬ nI ((aD α).2.1 i) ≤ 0 from Int32.not_le.mpr (nI_lt (a := 0) (by omega) (by omega))), (hd.2 i (by omega)).2 h4]
      by_cases h5 : (aD α).2.2.1 i = ltr (aN α) n i
      · rw [if_pos (congrArg nI h5), if_neg (fun w => w.2 h5), ih (i + 1) c g (by omega) (by omega), Nat.zero_add]
      · rw [if_neg (fun w => h5 ((nI_eq (by omega) (by omega)).mp w)), if_pos ⟨h4, h5⟩, ih (i + 1) (c + 1) g (by omega) (by omega), Nat.add_assoc]
theorem ntd_0 {d : DD} {i : Nat} (h : d.2.1 i = 0) : ntd d i = -2 := if_pos h
theorem ntd_1 {d : DD} {i : Nat} (h : ¬ d.2.1 i = 0) : ntd d i = nI (d.2.2.1 i) := if_neg h
theorem nI_nm2 {n : Nat} (h : n < 2 ^ 31) : ¬ (-2 : Int32) = nI n := fun z => nI_n0 h (z ▸ (show (-2 : Int32) < 0 by decide))
theorem wrongM_loop {k : Nat} {α : Ab} {τ : St} (ho : OkA k α) (hm : AbsM α τ) {n : Nat} (hn : n < (aN α).length) (z : (aD α).1 = nI n) : ∀ m i c f, i + m = (nmL (aN α) n).length → m < f → f_X12_wrongNoted_b4 f τ (nI c) (nI i) = some (nI (c + cW (aN α) (aD α) n i m), τ) := by
  have hl := (oNm ho).1
  have h6 := ((oNm ho).2.1 n hn).2
  have e52 : τ.1 623 0 = nI n := (mDe hm).1.trans z
  have hd := (mDe hm).2.2.2.2 (by rw [z]; exact nI_nm1 (by omega))
  intro m
  induction m with
  | zero =>
    intro i c f hi hf
    obtain ⟨g, rfl⟩ : ∃ g, f = g + 1 := ⟨f - 1, by omega⟩
    rw [f_X12_wrongNoted_b4, e52, chk_e (in_nI (show n < 10 by omega) (by omega)), nI_clamp (by omega), (hm.1.2 n hn).1, if_pos (nI_le (by omega) (by omega))]
    rfl
  | succ m ih =>
    intro i c f hi hf
    obtain ⟨g, rfl⟩ : ∃ g, f = g + 1 := ⟨f - 1, by omega⟩
    have hb2 := (oDe ho).2.2 i
    have hb3 := (oNm ho).2.2.1 n i
    have e1 : nI i + 1 = nI (i + 1) := nI_add i 1
    have e2 : nI c + 1 = nI (c + 1) := nI_add c 1
    have e0 : nI c + 0 = nI c := nI_add c 0
    rw [f_X12_wrongNoted_b4, e52, chk_e (in_nI (show n < 10 by omega) (by omega)), nI_clamp (show n < 2 ^ 31 by omega), (hm.1.2 n hn).1, if_neg (Int32.not_le.mpr (nI_lt (by omega) (by omega))), chk_e (in_nI (show i < 6 by omega) (by omega)), chk_e (in_nI (show i < 6 by omega) (by omega)), nI_clamp (show i < 2 ^ 31 by omega), (hd.2.2 i (by omega)).2, e_X12_at1 ho hm hn (by omega), cW]
    simp only [bnd_e, bnd2_e, f_X12_wrongNoted_b49]
    rw [e1, e2, e0]
    by_cases h4 : (aD α).2.1 i = 0
    · rw [ntd_0 h4, if_pos (show (-2 : Int32) < 0 by decide), if_neg (fun w => w.1 h4), ih (i + 1) c g (by omega) (by omega), Nat.zero_add]
    · rw [ntd_1 h4, if_neg (nI_n0 (by omega))]
      by_cases h5 : (aD α).2.2.1 i = ltr (aN α) n i
      · rw [if_pos (congrArg nI h5), if_neg (fun w => w.2 h5), ih (i + 1) c g (by omega) (by omega), Nat.zero_add]
      · rw [if_neg (fun w => h5 ((nI_eq (by omega) (by omega)).mp w)), if_pos ⟨h4, h5⟩, ih (i + 1) (c + 1) g (by omega) (by omega), Nat.add_assoc]
def hgM (τ : St) (y : Int32) : St := sI (sI (sI τ 623 0 (-1)) 628 0 ((sI τ 623 0 (-1)).1 628 0 + 1)) 629 0 ((sI (sI τ 623 0 (-1)) 628 0 ((sI τ 623 0 (-1)).1 628 0 + 1)).1 629 0 + y)
theorem hangM_loop {k : Nat} {α : Ab} {τ : St} (ho : OkA k α) (hm : AbsM α τ) {n : Nat} (hn : n < (aN α).length) (z : (aD α).1 = nI n) : ∀ m i x f, i + m = (nmL (aN α) n).length → m < f → f_X12_hang_b14 f τ x (nI i) = some (if cM (aD α) i m + cW (aN α) (aD α) n i m = 0 then x else 0, hgM τ (if cM (aD α) i m + cW (aN α) (aD α) n i m = 0 then x else 0)) := by
  have hl := (oNm ho).1
  have h6 := ((oNm ho).2.1 n hn).2
  have e52 : τ.1 623 0 = nI n := (mDe hm).1.trans z
  have hd := (mDe hm).2.2.2.2 (by rw [z]; exact nI_nm1 (by omega))
  intro m
  induction m with
  | zero =>
    intro i x f hi hf
    obtain ⟨g, rfl⟩ : ∃ g, f = g + 1 := ⟨f - 1, by omega⟩
    rw [f_X12_hang_b14, e52, chk_e (in_nI (show n < 10 by omega) (by omega)), nI_clamp (by omega), (hm.1.2 n hn).1, if_pos (nI_le (by omega) (by omega)), if_pos (show cM (aD α) i 0 + cW (aN α) (aD α) n i 0 = 0 from rfl)]
    rfl
  | succ m ih =>
    intro i x f hi hf
    obtain ⟨g, rfl⟩ : ∃ g, f = g + 1 := ⟨f - 1, by omega⟩
    have hb2 := (oDe ho).2.2 i
    have hb3 := (oNm ho).2.2.1 n i
    have e1 : nI i + 1 = nI (i + 1) := nI_add i 1
    rw [f_X12_hang_b14, e52, chk_e (in_nI (show n < 10 by omega) (by omega)), nI_clamp (show n < 2 ^ 31 by omega), (hm.1.2 n hn).1, if_neg (Int32.not_le.mpr (nI_lt (by omega) (by omega))), chk_e (in_nI (show i < 6 by omega) (by omega)), nI_clamp (show i < 2 ^ 31 by omega), (hd.2.2 i (by omega)).2, e_X12_at1 ho hm hn (by omega), cM, cW]
    simp only [bnd_e, bnd2_e]
    rw [e1]
    by_cases h4 : (aD α).2.1 i = 0
    · rw [ntd_0 h4, if_neg (nI_nm2 (by omega)), ih (i + 1) 0 g (by omega) (by omega), ite_self, if_pos h4, if_neg (show ¬ (1 + cM (aD α) (i + 1) m + _ = 0) by omega)]
    · rw [ntd_1 h4, if_neg h4, Nat.zero_add]
      by_cases h5 : (aD α).2.2.1 i = ltr (aN α) n i
      · rw [if_pos (congrArg nI h5), ih (i + 1) x g (by omega) (by omega), if_neg (show ¬ ((aD α).2.1 i ≠ 0 ∧ (aD α).2.2.1 i ≠ ltr (aN α) n i) from fun w => w.2 h5), Nat.zero_add]
      · rw [if_neg (fun w => h5 ((nI_eq (by omega) (by omega)).mp w)), ih (i + 1) 0 g (by omega) (by omega), ite_self, if_pos (show ((aD α).2.1 i ≠ 0 ∧ (aD α).2.2.1 i ≠ ltr (aN α) n i) from ⟨h4, h5⟩), if_neg (show ¬ (cM (aD α) (i + 1) m + (1 + _) = 0) by omega)]
theorem st29 (k : Nat) (hk : k < 512) : Step_29 (Rel k) (Rel (k + 1)) := by
  intro σ τ p hr
  obtain ⟨α, ho, hc, hm⟩ := hr
  have hR : Rel (k + 1) σ τ := ⟨α, okA_mono ho, hc, hm⟩
  have hl := (oNm ho).1
  unfold f_X11_led f_X12_led
  rw [(cDe hc).2.2.1, (cDe hc).2.2.2.1, (cDe hc).2.2.2.2.1, (mDe hm).2.1, (mDe hm).2.2.1, (mDe hm).2.2.2.1, (cDe hc).2.1, (mDe hm).1]
  by_cases h0 : p = 0
  · simp only [if_pos h0]; exact ⟨_, _, _, rfl, rfl, hR⟩
  · simp only [if_neg h0]
    by_cases h1 : p = 1
    · simp only [if_pos h1]; exact ⟨_, _, _, rfl, rfl, hR⟩
    · simp only [if_neg h1]
      by_cases h2 : p = 2
      · simp only [if_pos h2]; exact ⟨_, _, _, rfl, rfl, hR⟩
      · simp only [if_neg h2]
        rcases (oDe ho).1 with ⟨z, z2⟩ | ⟨n, hn, z⟩
        · rw [z2, z]
          simp only [if_neg neg1_nle]
          by_cases h3 : p = 3
          · simp only [if_pos h3]; exact ⟨_, _, _, rfl, rfl, hR⟩
          · simp only [if_neg h3]
            by_cases h4 : p = 4
            · simp only [if_pos h4]
              have e : f_X1_wrong σ 0 = some (0, σ) := by
                unfold f_X1_wrong
                rw [f_X1_wrong_b4, (cDe hc).1, z, if_pos neg1_lt]
              rw [e]
              exact ⟨_, _, _, rfl, rfl, hR⟩
            · simp only [if_neg h4]; exact ⟨_, _, _, rfl, rfl, hR⟩
        · have h6 := ((oNm ho).2.1 n hn).2
          have hd2 := (mDe hm).2.2.2.2 (by rw [z]; exact nI_nm1 (by omega))
          rw [z, hd2.1]
          simp only [if_pos (nI_0le (show n < 2 ^ 31 by omega))]
          by_cases h3 : p = 3
          · simp only [if_pos h3]; exact ⟨_, _, _, rfl, rfl, hR⟩
          · simp only [if_neg h3]
            by_cases h4 : p = 4
            · simp only [if_pos h4]
              have e : f_X1_wrong σ 0 = _ := wrong_loop hk ho hc hn z (nmL (aN α) n).length 0 0 256 (by omega) (by omega)
              have e' : f_X12_wrongNoted τ = _ := wrongM_loop ho hm hn z (nmL (aN α) n).length 0 0 256 (by omega) (by omega)
              rw [e, e']
              exact ⟨_, _, _, rfl, rfl, hR⟩
            · simp only [if_neg h4]; exact ⟨_, _, _, rfl, rfl, hR⟩
