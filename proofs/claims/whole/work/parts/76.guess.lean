/-! LIKELIEST -/
def mxN (v : Nat → Nat) : Nat → Nat
  | 0 => 0
  | n + 1 => if v n ≤ mxN v n then mxN v n else v n
def bstN (v : Nat → Nat) : Nat → Nat
  | 0 => 0
  | n + 1 => if v n ≤ v (bstN v n) then bstN v n else n
theorem bst_lt (v : Nat → Nat) : ∀ {n}, 0 < n → bstN v n < n
  | 0, h => absurd h (Nat.lt_irrefl 0)
  | n + 1, _ => by
    rw [bstN]
    split
    · by_cases h : n = 0
      · subst h; exact Nat.zero_lt_one
      · have := bst_lt v (n := n) (by omega); omega
    · omega
theorem bst_1 (v : Nat → Nat) : bstN v 1 = 0 := by
  rw [bstN]
  split <;> rfl
theorem mx_bst (v : Nat → Nat) : ∀ {n}, 0 < n → v (bstN v n) = mxN v n
  | 0, h => absurd h (Nat.lt_irrefl 0)
  | n + 1, _ => by
    by_cases h : n = 0
    · subst h
      rw [bst_1, mxN, mxN]
      split <;> omega
    · have ih := mx_bst v (n := n) (by omega)
      rw [bstN, mxN, ih]
      split
      · exact ih
      · rfl
theorem mx_ge (v : Nat → Nat) : ∀ {n j}, j < n → v j ≤ mxN v n
  | 0, _, h => absurd h (Nat.not_lt_zero _)
  | n + 1, j, h => by
    rw [mxN]
    by_cases e : j = n
    · subst e
      split <;> omega
    · have := mx_ge v (n := n) (j := j) (by omega)
      split <;> omega
theorem sums_mx (v : Nat → Nat) (n : Nat) : smsN v n = 0 ↔ mxN v n = 0 := by
  induction n with
  | zero => exact ⟨fun _ => rfl, fun _ => rfl⟩
  | succ n ih =>
    rw [smsN, mxN]
    constructor
    · intro h
      have h1 := ih.mp (by omega)
      rw [h1, if_pos (by omega)]
    · intro h
      by_cases q : v n ≤ mxN v n
      · rw [if_pos q] at h
        have := ih.mpr h
        omega
      · rw [if_neg q] at h
        omega
/-- the class's answer -/
def bstC (v : Nat → Nat) (n : Nat) : Int32 := if mxN v n = 0 then -2 else nI (bstN v n)
theorem best_loop {k : Nat} {α : Ab} {σ : St} (ho : OkA k α) {v : Nat → Nat} (hv : ∀ j, j < (aN α).length → v j ≤ 9000000000000) (hI : InvW α v (aN α).length σ) : ∀ m n f, n + m = (aN α).length → m < f → f_X3_best_b8 f σ (bstC v n) (lN (mxN v n)) (nI n) = some (bstC v (aN α).length, σ) := by
  have hl := (oNm ho).1
  intro m
  induction m with
  | zero =>
    intro n f hi hf
    obtain ⟨f, rfl⟩ : ∃ x, f = x + 1 := ⟨f - 1, by omega⟩
    have e : n = (aN α).length := by omega
    subst e
    rw [f_X3_best_b8, hI.1.1.1, if_pos (nI_le (Nat.le_refl _) (by omega))]
  | succ m ih =>
    intro n f hi hf
    obtain ⟨f, rfl⟩ : ∃ x, f = x + 1 := ⟨f - 1, by omega⟩
    have hn : n < (aN α).length := by omega
    have hb := hv n hn
    have hmx : mxN v n ≤ 9000000000000 := by
      by_cases h0 : n = 0
      · subst h0; rw [mxN]; omega
      · rw [← mx_bst v (by omega)]
        exact hv _ (by have := bst_lt v (n := n) (by omega); omega)
    rw [f_X3_best_b8, hI.1.1.1, if_neg (nI_ge hn (by omega)), chk_in (show n < 10 by omega) (by omega), chk_in (show n < 10 by omega) (by omega), nI_clamp (by omega), hI.2.1 n hn]
    simp only [bnd_e, nI_p1]
    have ih2 := ih (n + 1) f (by omega) (by omega)
    by_cases hq : v n ≤ mxN v n
    · rw [if_pos ((pk_lLE (by omega) (by omega)).mpr hq)]
      have e1 : mxN v (n + 1) = mxN v n := by rw [mxN, if_pos hq]
      have e2 : bstC v (n + 1) = bstC v n := by
        unfold bstC
        rw [e1]
        by_cases h0 : mxN v n = 0
        · rw [if_pos h0, if_pos h0]
        · rw [if_neg h0, if_neg h0]
          have hn0 : 0 < n := by
            by_cases z : n = 0
            · subst z; exact absurd rfl h0
            · omega
          rw [bstN, mx_bst v hn0, if_pos hq]
      rw [← e1, ← e2]
      exact ih2
    · rw [if_neg (fun z => hq ((pk_lLE (by omega) (by omega)).mp z))]
      have e1 : mxN v (n + 1) = v n := by rw [mxN, if_neg hq]
      have e2 : bstC v (n + 1) = nI n := by
        unfold bstC
        rw [e1, if_neg (by omega), bstN]
        by_cases z : n = 0
        · subst z
          split <;> rfl
        · rw [mx_bst v (by omega), if_neg hq]
      rw [← e1, ← e2]
      exact ih2
theorem best_C {k : Nat} {α : Ab} {σ : St} (ho : OkA k α) {v : Nat → Nat} (hv : ∀ j, j < (aN α).length → v j ≤ 9000000000000) (hI : InvW α v (aN α).length σ) : f_X3_best σ = some (bstC v (aN α).length, σ) := by
  have hl := (oNm ho).1
  exact best_loop ho hv hI (aN α).length 0 256 (by omega) (by omega)
theorem likN_loop {k : Nat} {α : Ab} {τ : St} (ho : OkA k α) {v : Nat → Nat} (hv : ∀ j, j < (aN α).length → v j ≤ 9000000000000) (hI : InvP α v (aN α).length τ) : ∀ m n f, n + m = (aN α).length → 0 < n → m < f → f_X12_likeliestNow_b4 f τ (nI (bstN v n)) (nI n) = some (nI (bstN v (aN α).length), τ) := by
  have hl := (oNm ho).1
  intro m
  induction m with
  | zero =>
    intro n f hi h0 hf
    obtain ⟨f, rfl⟩ : ∃ x, f = x + 1 := ⟨f - 1, by omega⟩
    have e : n = (aN α).length := by omega
    subst e
    rw [f_X12_likeliestNow_b4, hI.1.1.1, if_pos (nI_le (Nat.le_refl _) (by omega))]
  | succ m ih =>
    intro n f hi h0 hf
    obtain ⟨f, rfl⟩ : ∃ x, f = x + 1 := ⟨f - 1, by omega⟩
    have hn : n < (aN α).length := by omega
    have hb := hv n hn
    have hbl := bst_lt v h0
    have hb2 := hv (bstN v n) (by omega)
    rw [f_X12_likeliestNow_b4, hI.1.1.1, if_neg (nI_ge hn (by omega)), chk_in (show n < 10 by omega) (by omega), chk_in (show bstN v n < 10 by omega) (by omega), nI_clamp (by omega), nI_clamp (by omega), hI.2 n hn, hI.2 (bstN v n) (by omega)]
    simp only [bnd_e, nI_p1]
    have ih2 := ih (n + 1) f (by omega) (by omega) (by omega)
    by_cases hq : v n ≤ v (bstN v n)
    · rw [if_pos ((pk_lLE (by omega) (by omega)).mpr hq)]
      rw [bstN, if_pos hq] at ih2
      exact ih2
    · rw [if_neg (fun z => hq ((pk_lLE (by omega) (by omega)).mp z))]
      rw [bstN, if_neg hq] at ih2
      exact ih2
theorem likN_M {k : Nat} {α : Ab} {τ : St} (ho : OkA k α) {v : Nat → Nat} (hv : ∀ j, j < (aN α).length → v j ≤ 9000000000000) (hI : InvP α v (aN α).length τ) (h0 : 0 < (aN α).length) : f_X12_likeliestNow τ = some (nI (bstN v (aN α).length), τ) := by
  have hl := (oNm ho).1
  have h := likN_loop ho hv hI ((aN α).length - 1) 1 256 (by omega) (by omega) (by omega)
  rw [bst_1] at h
  exact h
theorem sums_pos {v : Nat → Nat} {n : Nat} (h : ¬ smsN v n = 0) : 0 < n := by
  cases n with
  | zero => exact absurd rfl h
  | succ n => exact Nat.succ_pos n
/-! 7 likely -/
theorem st7 (k : Nat) : Step_7 (Rel k) (Rel (k + 1)) := by
  intro σ τ p q r hr
  obtain ⟨α, ho, hc, hm⟩ := hr
  have hR : Rel (k + 1) σ τ := ⟨α, okA_mono ho, hc, hm⟩
  unfold f_X11_likely f_X12_likely
  rcases name_both ho hc hm q with ⟨n, hn, hn2, e, h1, h2⟩ | ⟨h1, h2⟩
  · rw [h1, bnd2_e, if_neg one_n0]
    rcases part_both r with ⟨w, hw, er, d1, d2⟩ | ⟨d1, d2⟩
    · rw [d1, bnd1_e, if_neg one_n0]
      rcases bytes_both ho hc hm p with ⟨d, hd, ed, ht, b1, b2⟩ | ⟨b, hb, b1, b2⟩
      · rw [b1, b2, bnd2_e, bnd2_e, if_pos rfl, if_pos rfl, h2, bnd2_e, if_neg one_n0, d2, bnd1_e, if_neg one_n0]
        subst ed
        subst e
        subst er
        obtain ⟨σ1, x1, x2⟩ := weigh_C ho hc hd ht (-1)
        obtain ⟨τ1, y1, y2⟩ := prods_M ho hm hd ht
        rw [pc_m1] at x2
        have hsb := sums_b ho d
        have hpn := pr_le ho d hn
        rw [chk_in hd (by omega), nI_clamp (by omega), x1, bnd1_e, x2.2.2, y1, bnd2_e]
        by_cases h0 : smsN (prN α d) (aN α).length = 0
        · rw [if_pos ((lN_z (by omega)).mpr h0), if_pos ((lN_z (by omega)).mpr h0)]
          exact ⟨_, _, _, rfl, rfl, α, okA_mono ho, x2.1, y2.1⟩
        · have hz : ¬ lN (smsN (prN α d) (aN α).length) = 0 := fun z => h0 ((lN_z (by omega)).mp z)
          rw [if_neg hz, if_neg hz, chk_in hn2 (by omega), chk_in hn2 (by omega), nI_clamp (by omega), x2.2.1 n hn, y2.2 n hn, fracRes (by omega) (by omega) (by omega) hw, e_partOf (by omega) (by omega) (by omega) hw]
          exact ⟨_, _, _, rfl, rfl, α, okA_mono ho, x2.1, y2.1⟩
      · have hb3 := tri_ne hb
        rw [b1, b2, bnd2_e, bnd2_e, if_neg hb3.1, if_neg hb3.2.1]
        exact ⟨_, _, _, rfl, rfl, hR⟩
    · rw [d1, d2, bnd1_e, if_pos rfl]
      rcases bytes_both ho hc hm p with ⟨d, hd, ed, ht, b1, b2⟩ | ⟨b, hb, b1, b2⟩
      · rw [b2, bnd2_e, if_pos rfl, h2]
        exact ⟨_, _, _, rfl, rfl, hR⟩
      · rw [b2, bnd2_e, if_neg (tri_ne hb).2.1]
        exact ⟨_, _, _, rfl, rfl, hR⟩
  · rw [h1, bnd2_e, if_pos rfl]
    rcases bytes_both ho hc hm p with ⟨d, hd, ed, ht, b1, b2⟩ | ⟨b, hb, b1, b2⟩
    · rw [b2, bnd2_e, if_pos rfl, h2]
      exact ⟨_, _, _, rfl, rfl, hR⟩
    · rw [b2, bnd2_e, if_neg (tri_ne hb).2.1]
      exact ⟨_, _, _, rfl, rfl, hR⟩
/-! 8 likeliest -/
theorem zle1 : (0 : Int32) ≤ 1 := by decide
theorem bstC_0 {v : Nat → Nat} {n : Nat} (h : smsN v n = 0) : bstC v n = -2 := if_pos ((sums_mx v n).mp h)
theorem bstC_1 {v : Nat → Nat} {n : Nat} (h : ¬ smsN v n = 0) : bstC v n = nI (bstN v n) := if_neg (fun z => h ((sums_mx v n).mpr z))
theorem likeliest_M {k : Nat} {α : Ab} {τ : St} (ho : OkA k α) (hm : AbsM α τ) {d : Nat} (hd : d < 6) (ht : (aSH α d).1 = 51) (hb : f_X12_bytesIs τ (nI d) = some (1, τ)) : ∃ τ', f_X12_likeliest τ (nI d) = some (bstC (prN α d) (aN α).length, τ') ∧ InvP α (prN α d) (aN α).length τ' := by
  obtain ⟨τ1, y1, y2⟩ := prods_M ho hm hd ht
  have hsb := sums_b ho d
  refine ⟨τ1, ?_, y2⟩
  unfold f_X12_likeliest
  rw [hb, bnd2_e, if_pos zle1, y1, bnd2_e]
  by_cases h0 : smsN (prN α d) (aN α).length = 0
  · rw [if_pos ((lN_z (by omega)).mpr h0), bstC_0 h0]
  · have hz : ¬ lN (smsN (prN α d) (aN α).length) = 0 := fun z => h0 ((lN_z (by omega)).mp z)
    rw [if_neg hz, likN_M ho (fun j hj => pr_le ho d hj) y2 (sums_pos h0), bnd2_e, bstC_1 h0]
theorem st8 (k : Nat) : Step_8 (Rel k) (Rel (k + 1)) := by
  intro σ τ p hr
  obtain ⟨α, ho, hc, hm⟩ := hr
  have hR : Rel (k + 1) σ τ := ⟨α, okA_mono ho, hc, hm⟩
  unfold f_X11_likeliest
  rcases bytes_both ho hc hm p with ⟨d, hd, ed, ht, b1, b2⟩ | ⟨b, hb, b1, b2⟩
  · rw [b1, bnd2_e, if_pos rfl]
    subst ed
    obtain ⟨σ1, x1, x2⟩ := weigh_C ho hc hd ht (-1)
    obtain ⟨τ1, y1, y2⟩ := likeliest_M ho hm hd ht b2
    rw [pc_m1] at x2
    rw [chk_in hd (by omega), nI_clamp (by omega), x1, bnd1_e, best_C ho (fun j hj => pr_le ho d hj) x2, bnd2_e]
    exact ⟨_, _, _, rfl, y1, α, okA_mono ho, x2.1, y2.1⟩
  · have hb3 := tri_ne hb
    unfold f_X12_likeliest
    rw [b1, b2, bnd2_e, bnd2_e, if_neg hb3.1, if_neg hb3.2.2, b2]
    exact ⟨_, _, _, rfl, rfl, hR⟩
/-! 9 sure -/
theorem st9 (k : Nat) : Step_9 (Rel k) (Rel (k + 1)) := by
  intro σ τ p q hr
  obtain ⟨α, ho, hc, hm⟩ := hr
  have hR : Rel (k + 1) σ τ := ⟨α, okA_mono ho, hc, hm⟩
  have hl := (oNm ho).1
  unfold f_X11_sure f_X12_sure f_X11_sure_b16
  rcases twelve_both q with ⟨w, hw, er, d1, d2⟩ | ⟨d1, d2⟩
  · rw [d1, bnd1_e, if_neg one_n0]
    rcases bytes_both ho hc hm p with ⟨d, hd, ed, ht, b1, b2⟩ | ⟨b, hb, b1, b2⟩
    · rw [b1, b2, bnd2_e, bnd2_e, if_pos rfl, if_neg (show ¬ (1 : Int32) = -1 by decide), d2, bnd1_e, if_neg one_n0, b2, bnd2_e, if_pos zle1]
      subst ed
      obtain ⟨σ1, x1, x2⟩ := weigh_C ho hc hd ht (-1)
      obtain ⟨τ1, y1, y2⟩ := prods_M ho hm hd ht
      rw [pc_m1] at x2
      have hsb := sums_b ho d
      rw [chk_in hd (by omega), nI_clamp (by omega), x1, bnd1_e, best_C ho (fun j hj => pr_le ho d hj) x2, bnd2_e, y1, bnd2_e]
      by_cases h0 : smsN (prN α d) (aN α).length = 0
      · rw [if_pos ((lN_z (by omega)).mpr h0), bstC_0 h0, if_neg (show ¬ (0 : Int32) ≤ -2 by decide)]
        exact ⟨_, _, _, rfl, rfl, α, okA_mono ho, x2.1, y2.1⟩
      · have hz : ¬ lN (smsN (prN α d) (aN α).length) = 0 := fun z => h0 ((lN_z (by omega)).mp z)
        have hbl := bst_lt (prN α d) (sums_pos h0)
        rw [if_neg hz, likN_M ho (fun j hj => pr_le ho d hj) y2 (sums_pos h0), bnd2_e, bstC_1 h0, if_pos (nI_0le (by omega)), chk_in (show bstN (prN α d) (aN α).length < 10 by omega) (by omega), chk_in (show bstN (prN α d) (aN α).length < 10 by omega) (by omega), nI_clamp (by omega), x2.2.1 _ hbl, y2.2 _ hbl, x2.2.2]
        by_cases hq : (12 : Int64) * lN (prN α d (bstN (prN α d) (aN α).length)) ≤ q.toInt64 * lN (smsN (prN α d) (aN α).length)
        · rw [if_pos hq, if_pos hq]
          exact ⟨_, _, _, rfl, rfl, α, okA_mono ho, x2.1, y2.1⟩
        · rw [if_neg hq, if_neg hq]
          exact ⟨_, _, _, rfl, rfl, α, okA_mono ho, x2.1, y2.1⟩
    · have hb3 := tri_ne hb
      rw [b1, b2, bnd2_e, bnd2_e, if_neg hb3.1, d2, bnd1_e, if_neg one_n0, b2, bnd2_e, if_neg hb3.2.2, b2, bnd2_e]
      by_cases hq : b = -1
      · rw [if_pos hq, hq]
        exact ⟨_, _, _, rfl, rfl, hR⟩
      · rw [if_neg hq]
        exact ⟨_, _, _, rfl, rfl, hR⟩
  · rw [d1, d2, bnd1_e, if_pos rfl, if_neg neg1_n0]
    have hx : ∃ b, f_X12_bytesIs τ p = some (b, τ) := by
      rcases bytes_both ho hc hm p with ⟨d, hd, ed, ht, b1, b2⟩ | ⟨b, hb, b1, b2⟩
      · exact ⟨_, b2⟩
      · exact ⟨_, b2⟩
    obtain ⟨b, b2⟩ := hx
    rw [b2, bnd2_e, bnd1_e, if_pos rfl, ite_self]
    exact ⟨_, _, _, rfl, rfl, hR⟩
/-! 10 check -/
theorem check_loop {k : Nat} {α : Ab} (ho : OkA k α) {d n0 w : Nat} (hn0 : n0 < (aN α).length) {q : Int32} (x : Nat) (hx : x < 100) (e1 : q / 100 = nI n0) (e2 : q - q / 100 * 100 = nI x) (hw : w < 2) : ∀ m n f τ, n + m = (aN α).length → m < f → AbsM α τ → (∀ j, j < (aN α).length → τ.2.2.2.1 620 0 j = lN (if j < n then pcN α d (nI x) j else prN α d j)) → ∃ τ', f_X12_check_b59 f τ q (nI w) (lN (smsN (pcN α d (nI x)) n)) (nI n) = (if smsN (pcN α d (nI x)) (aN α).length = 0 then some (-2, τ') else bnd1 (f_X12_partOf (lN (pcN α d (nI x) n0)) (lN (smsN (pcN α d (nI x)) (aN α).length)) (nI w)) (fun r => some (r, τ'))) ∧ AbsM α τ' := by
  have hl := (oNm ho).1
  intro m
  induction m with
  | zero =>
    intro n f τ hi hf hm hv
    obtain ⟨f, rfl⟩ : ∃ x, f = x + 1 := ⟨f - 1, by omega⟩
    have e : n = (aN α).length := by omega
    subst e
    have hsb : smsN (pcN α d (nI x)) (aN α).length ≤ (aN α).length * 9000000000000 := sums_le (fun j hj => pc_le ho d (nI x) hj)
    have h2 : (aN α).length * 9000000000000 ≤ 10 * 9000000000000 := Nat.mul_le_mul_right _ hl
    refine ⟨τ, ?_, hm⟩
    rw [f_X12_check_b59, hm.1.1, if_pos (nI_le (Nat.le_refl _) (by omega)), e1, chk_in (show n0 < 10 by omega) (by omega), nI_clamp (by omega), hv n0 hn0, if_pos hn0]
    by_cases h0 : smsN (pcN α d (nI x)) (aN α).length = 0
    · rw [if_pos ((lN_z (by omega)).mpr h0), if_pos h0]
    · rw [if_neg (fun z => h0 ((lN_z (by omega)).mp z)), if_neg h0]
  | succ m ih =>
    intro n f τ hi hf hm hv
    obtain ⟨f, rfl⟩ : ∃ x, f = x + 1 := ⟨f - 1, by omega⟩
    have hn : n < (aN α).length := by omega
    have hn10 : n < 10 := by omega
    obtain ⟨n1, n2, n3, n4⟩ := sz_M ho hm hn
    have hs : f_X12_sumOf τ (nI n) = some (nI (smN α n), τ) := sumOf_M ho hm hn (nmL (aN α) n).length 0 0 256 (by omega) (by omega) (by omega)
    rw [f_X12_check_b59, hm.1.1, if_neg (nI_ge hn (by omega)), hs, bnd2_e, e2, chk_in hn10 (by omega), nI_clamp (by omega), hv n hn, if_neg (Nat.lt_irrefl n)]
    have e3 : (if nI (smN α n) = nI x then f_X12_check_b98 (f_X12_check_b59 f) τ q (nI w) (lN (smsN (pcN α d (nI x)) n)) (nI n) (lN (prN α d n)) (nI n) else f_X12_check_b98 (f_X12_check_b59 f) τ q (nI w) (lN (smsN (pcN α d (nI x)) n)) (nI n) (0 : Int64) (nI n)) = f_X12_check_b98 (f_X12_check_b59 f) τ q (nI w) (lN (smsN (pcN α d (nI x)) n)) (nI n) (lN (pcN α d (nI x) n)) (nI n) := by
      unfold pcN
      by_cases h : nI (smN α n) = nI x
      · rw [if_pos h, if_pos (Or.inr h)]
      · rw [if_neg h, if_neg (show ¬ (nI x < 0 ∨ nI (smN α n) = nI x) from fun z => z.elim (nI_n0 (by omega)) h)]
        rfl
    rw [e3]
    unfold f_X12_check_b98
    simp only [chk_in hn10 (show 10 ≤ 2000000000 by omega), bnd_e, nI_p1]
    simp only [nI_clamp (show n < 2 ^ 31 by omega)]
    have e4 : (sL τ 620 0 (vp_updL (τ.2.2.2.1 620 0) n (lN (pcN α d (nI x) n)))).2.2.2.1 620 0 n = lN (pcN α d (nI x) n) := pk_uLs
    rw [e4, lN_add]
    refine ih (n + 1) f _ (by omega) (by omega) (absM_620 hm _) (fun j hj => ?_)
    show vp_updL (τ.2.2.2.1 620 0) n (lN (pcN α d (nI x) n)) j = _
    by_cases e : j = n
    · subst e
      rw [pk_uLs, if_pos (Nat.lt_succ_self j)]
    · rw [pk_uLn e, hv j hj]
      by_cases h : j < n
      · rw [if_pos h, if_pos (by omega)]
      · rw [if_neg h, if_neg (by omega)]
theorem st10 (k : Nat) : Step_10 (Rel k) (Rel (k + 1)) := by
  intro σ τ p q r hr
  obtain ⟨α, ho, hc, hm⟩ := hr
  have hR : Rel (k + 1) σ τ := ⟨α, okA_mono ho, hc, hm⟩
  have hl := (oNm ho).1
  -- what the model says, where the class has refused
  unfold f_X11_check f_X12_check
  by_cases h0 : q < 0
  · rw [if_pos h0]
    simp only [if_pos h0]
    rcases bytes_both ho hc hm p with ⟨d, hd, ed, ht, b1, b2⟩ | ⟨b, hb, b1, b2⟩
    · rw [b2, bnd2_e, if_pos rfl]
      exact ⟨_, _, _, rfl, rfl, hR⟩
    · rw [b2, bnd2_e, if_neg (tri_ne hb).2.1]
      exact ⟨_, _, _, rfl, rfl, hR⟩
  · obtain ⟨z, hz, eq⟩ := nI_of h0
    have e1 : q / 100 = nI (z / 100) := by rw [eq]; exact pk_div (d := 100) hz (by omega) (by omega)
    have e2 : q - q / 100 * 100 = nI (z % 100) := by rw [eq]; exact pk_rem (d := 100) hz (by omega) (by omega)
    rw [if_neg h0]
    simp only [if_neg h0]
    have e11 : ∀ x : Int32, 0 ≤ x → (¬ (11 : Int32) < x ↔ x ≤ 11) := fun x _ => Int32.not_lt
    rcases bytes_both ho hc hm p with ⟨d, hd, ed, ht, b1, b2⟩ | ⟨b, hb, b1, b2⟩
    · rw [b2, bnd2_e, if_pos rfl]
      rcases name_both ho hc hm (q / 100) with ⟨n, hn, hn2, e, h1, h2⟩ | ⟨h1, h2⟩
      · rw [h1, h2, bnd2_e, bnd2_e, if_neg one_n0, if_neg one_n0]
        have ezn : z / 100 = n := (nI_eq (by omega) (by omega)).mp (e1.symm.trans e)
        rw [e_X11_ofTwelve]
        by_cases h3 : 0 ≤ q - q / 100 * 100 ∧ q - q / 100 * 100 ≤ 11
        · rw [tf_t h3, bnd1_e, if_neg one_n0, if_neg (Int32.not_lt.mpr h3.2)]
          rcases part_both r with ⟨w, hw, er, d1, d2⟩ | ⟨d1, d2⟩
          · rw [d1, d2, bnd1_e, bnd1_e, if_neg one_n0, if_neg one_n0, b1, bnd2_e, if_pos rfl]
            subst ed
            subst er
            rw [e2]
            obtain ⟨σ1, x1, x2⟩ := weigh_C ho hc hd ht (nI (z % 100))
            obtain ⟨τ1, y1, y2⟩ := prods_M ho hm hd ht
            obtain ⟨τ2, w1, w2⟩ := check_loop ho hn (d := d) (w := w) (z % 100) (by omega) (by rw [e1, ezn]) e2 hw (aN α).length 0 256 τ1 (by omega) (by omega) y2.1 (fun j hj => by rw [if_neg (Nat.not_lt_zero j)]; exact y2.2 j hj)
            have w1' : f_X12_check_b59 256 τ1 q (nI w) (0 : Int64) (0 : Int32) = _ := w1
            have hsb : smsN (pcN α d (nI (z % 100))) (aN α).length ≤ (aN α).length * 9000000000000 := sums_le (fun j hj => pc_le ho d _ hj)
            have h9 : (aN α).length * 9000000000000 ≤ 10 * 9000000000000 := Nat.mul_le_mul_right _ hl
            have hpn := pc_le ho d (nI (z % 100)) hn
            rw [chk_in hd (by omega), nI_clamp (by omega), x1, bnd1_e, x2.2.2, y1, bnd2_e, w1', e1, ezn, chk_in hn2 (by omega), nI_clamp (by omega), x2.2.1 n hn]
            by_cases h5 : smsN (pcN α d (nI (z % 100))) (aN α).length = 0
            · rw [if_pos ((lN_z (by omega)).mpr h5), if_pos h5]
              exact ⟨_, _, _, rfl, rfl, α, okA_mono ho, x2.1, w2⟩
            · rw [if_neg (fun y => h5 ((lN_z (by omega)).mp y)), if_neg h5, fracRes (by omega) (by omega) (by omega) hw, e_partOf (by omega) (by omega) (by omega) hw]
              exact ⟨_, _, _, rfl, rfl, α, okA_mono ho, x2.1, w2⟩
          · rw [d1, d2]
            exact ⟨_, _, _, rfl, rfl, hR⟩
        · rw [tf_f h3, bnd1_e, if_pos rfl]
          have h4 : (11 : Int32) < q - q / 100 * 100 := Int32.not_le.mp (fun y => h3 ⟨by rw [e2]; exact nI_0le (by omega), y⟩)
          rw [if_pos h4]
          exact ⟨_, _, _, rfl, rfl, hR⟩
      · rw [h1, h2]
        exact ⟨_, _, _, rfl, rfl, hR⟩
    · have hb3 := tri_ne hb
      rw [b2, bnd2_e, if_neg hb3.2.1]
      rcases name_both ho hc hm (q / 100) with ⟨n, hn, hn2, e, h1, h2⟩ | ⟨h1, h2⟩
      · rw [h1, bnd2_e, if_neg one_n0, e_X11_ofTwelve, bnd1_e]
        rcases part_both r with ⟨w, hw, er, d1, d2⟩ | ⟨d1, d2⟩
        · rw [d1, bnd1_e, if_neg one_n0, b1, bnd2_e, if_neg hb3.1, ite_self]
          exact ⟨_, _, _, rfl, rfl, hR⟩
        · rw [d1, bnd1_e, if_pos rfl, ite_self]
          exact ⟨_, _, _, rfl, rfl, hR⟩
      · rw [h1]
        exact ⟨_, _, _, rfl, rfl, hR⟩
