/-! PRODUCTS -/
def prA (α : Ab) (it : Nat → Int64) (n : Nat) : Nat → Nat → Nat → Nat
  | 0, _, acc => acc
  | m + 1, i, acc => prA α it n m (i + 1) (acc * ptv α (ltr (aN α) n i) (it i) 0)
theorem prA_0 (α : Ab) (it : Nat → Int64) (n : Nat) : ∀ m i, prA α it n m i 0 = 0
  | 0, _ => rfl
  | m + 1, i => by rw [prA, Nat.zero_mul]; exact prA_0 α it n m (i + 1)
theorem prA_le (α : Ab) (it : Nat → Int64) (n : Nat) : ∀ m i acc, acc ≤ 9 * 100 ^ i → prA α it n m i acc ≤ 9 * 100 ^ (i + m)
  | 0, i, acc, h => h
  | m + 1, i, acc, h => by
    rw [prA, show i + (m + 1) = i + 1 + m by omega]
    refine prA_le α it n m (i + 1) _ ?_
    rw [Nat.pow_succ, ← Nat.mul_assoc]
    exact Nat.mul_le_mul h (ptv_le α _ _ _)
/-- the sum of a NAME's LETTERS -/
def smA (α : Ab) (n : Nat) : Nat → Nat → Nat → Nat
  | 0, _, acc => acc
  | m + 1, i, acc => smA α n m (i + 1) (acc + ltr (aN α) n i)
def smN (α : Ab) (n : Nat) : Nat := smA α n (nmL (aN α) n).length 0 0 % 12
theorem smA_le {k : Nat} {α : Ab} (ho : OkA k α) (n : Nat) : ∀ m i acc, smA α n m i acc ≤ acc + 11 * m
  | 0, _, acc => by rw [smA]; omega
  | m + 1, i, acc => by
    rw [smA]
    have h1 := smA_le ho n m (i + 1) (acc + ltr (aN α) n i)
    have h2 := ltr_lt ho n i
    omega
theorem sumOf_C {k : Nat} {α : Ab} {σ : St} (ho : OkA k α) (hc : AbsC α σ) {n : Nat} (hn : n < (aN α).length) : ∀ m i acc f, i + m = (nmL (aN α) n).length → m < f → acc ≤ 11 * i → f_X6_sumOf_b4 f σ (nI n) (nI acc) (nI i) = some (nI (smA α n m i acc % 12), σ) := by
  obtain ⟨n1, n2, n3, n4⟩ := sz_C ho hc hn
  intro m
  induction m with
  | zero =>
    intro i acc f hi hf ha
    obtain ⟨f, rfl⟩ : ∃ x, f = x + 1 := ⟨f - 1, by omega⟩
    rw [f_X6_sumOf_b4, chk_in n1 (by omega), nI_clamp (by omega), n4, if_pos (nI_le (by omega) (by omega)), show nI acc - nI acc / (12 : Int32) * (12 : Int32) = nI (acc % 12) from pk_rem (d := 12) (by omega) (by omega) (by omega)]
    rfl
  | succ m ih =>
    intro i acc f hi hf ha
    obtain ⟨f, rfl⟩ : ∃ x, f = x + 1 := ⟨f - 1, by omega⟩
    have hl := ltr_lt ho n i
    rw [f_X6_sumOf_b4, chk_in n1 (by omega), nI_clamp (by omega), n4, if_neg (nI_ge (show i < (nmL (aN α) n).length by omega) (by omega)), e_X6_at ho hc hn (show i < (nmL (aN α) n).length by omega), bnd2_e, nI_add]
    simp only [bnd_e, nI_p1]
    exact ih (i + 1) _ f (by omega) (by omega) (by omega)
theorem sumOf_M {k : Nat} {α : Ab} {τ : St} (ho : OkA k α) (hm : AbsM α τ) {n : Nat} (hn : n < (aN α).length) : ∀ m i acc f, i + m = (nmL (aN α) n).length → m < f → acc ≤ 11 * i → f_X12_sumOf_b4 f τ (nI n) (nI acc) (nI i) = some (nI (smA α n m i acc % 12), τ) := by
  obtain ⟨n1, n2, n3, n4⟩ := sz_M ho hm hn
  intro m
  induction m with
  | zero =>
    intro i acc f hi hf ha
    obtain ⟨f, rfl⟩ : ∃ x, f = x + 1 := ⟨f - 1, by omega⟩
    rw [f_X12_sumOf_b4, chk_in n1 (by omega), nI_clamp (by omega), n4, if_pos (nI_le (by omega) (by omega)), show nI acc - nI acc / (12 : Int32) * (12 : Int32) = nI (acc % 12) from pk_rem (d := 12) (by omega) (by omega) (by omega)]
    rfl
  | succ m ih =>
    intro i acc f hi hf ha
    obtain ⟨f, rfl⟩ : ∃ x, f = x + 1 := ⟨f - 1, by omega⟩
    have hl := ltr_lt ho n i
    rw [f_X12_sumOf_b4, chk_in n1 (by omega), nI_clamp (by omega), n4, if_neg (nI_ge (show i < (nmL (aN α) n).length by omega) (by omega)), e_X12_at1 ho hm hn (show i < (nmL (aN α) n).length by omega), bnd2_e, nI_add]
    simp only [bnd_e, nI_p1]
    exact ih (i + 1) _ f (by omega) (by omega) (by omega)
/-- the PRODUCT of a NAME; of those with a sum alone -/
def prN (α : Ab) (d n : Nat) : Nat := if (nmL (aN α) n).length = (aSH α d).2.1 then prA α (aSH α d).2.2 n (nmL (aN α) n).length 0 (aK α n) else 0
def pcN (α : Ab) (d : Nat) (x : Int32) (n : Nat) : Nat := if x < 0 ∨ nI (smN α n) = x then prN α d n else 0
def smsN (v : Nat → Nat) : Nat → Nat
  | 0 => 0
  | n + 1 => smsN v n + v n
theorem pr_le {k : Nat} {α : Ab} (ho : OkA k α) (d : Nat) {n : Nat} (hn : n < (aN α).length) : prN α d n ≤ 9000000000000 := by
  unfold prN
  split
  · have h1 := prA_le α (aSH α d).2.2 n (nmL (aN α) n).length 0 (aK α n) (by have := (oNm ho).2.2.2 n; omega)
    have h2 := pow6 ((oNm ho).2.1 n hn).2
    rw [Nat.zero_add] at h1
    omega
  · omega
theorem pc_le {k : Nat} {α : Ab} (ho : OkA k α) (d : Nat) (x : Int32) {n : Nat} (hn : n < (aN α).length) : pcN α d x n ≤ 9000000000000 := by
  unfold pcN
  split
  · exact pr_le ho d hn
  · omega
theorem sums_le {v : Nat → Nat} {c : Nat} : ∀ {n}, (∀ j, j < n → v j ≤ c) → smsN v n ≤ n * c
  | 0, _ => by rw [smsN]; omega
  | n + 1, h => by
    have h1 := sums_le (v := v) (n := n) (fun j hj => h j (by omega))
    have h2 := h n (by omega)
    rw [smsN, Nat.succ_mul]
    omega
theorem sums_cong {v w : Nat → Nat} : ∀ {n}, (∀ j, j < n → v j = w j) → smsN v n = smsN w n
  | 0, _ => rfl
  | n + 1, h => by rw [smsN, smsN, sums_cong (fun j hj => h j (by omega)), h n (by omega)]
/-! the class weighs -/
def InvW (α : Ab) (v : Nat → Nat) (n : Nat) (σ : St) : Prop := AbsC α σ ∧ (∀ j, j < n → σ.2.2.2.1 152 0 j = lN (v j)) ∧ σ.2.1 153 0 = lN (smsN v n)
theorem InvW.fr {α : Ab} {v : Nat → Nat} {n : Nat} {σ σ' : St} (h : InvW α v n σ) (hf : FrC σ σ') (hc : AbsC α σ') : InvW α v n σ' := by
  refine ⟨hc, fun j hj => ?_, ?_⟩
  · rw [hf.2.2.1]; exact h.2.1 j hj
  · rw [hf.2.1]; exact h.2.2
theorem partsL_C {α : Ab} {k1 : Nat} {σ : St} (ho : OkA k1 α) (hc : AbsC α σ) {s : Nat} (hs : s < 12) (v : Int64) : ∃ σ', f_X5_parts σ (nI s) (lvN v) (0 : Int32) = some (nI (ptv α s v 0), σ') ∧ FrC σ σ' ∧ AbsC α σ' := partsV_C ho hc hs (k := 0) (by omega) v
theorem partL_M {α : Ab} {k1 : Nat} {τ : St} (ho : OkA k1 α) (hm : AbsM α τ) {s : Nat} (hs : s < 12) (v : Int64) : ∃ τ', f_X12_partOfHeard τ (nI s) v (0 : Int32) = some (nI (ptv α s v 0), τ') ∧ FrM τ τ' ∧ AbsM α τ' := partV_M ho hm hs (k := 0) (by omega) v
theorem weigh_in {k : Nat} {α : Ab} (ho : OkA k α) {n d : Nat} (hn : n < (aN α).length) (hd : d < 6) (ht : 51 ≤ (aSH α d).1) (hlen : (nmL (aN α) n).length = (aSH α d).2.1) {v : Nat → Nat} {K : St → Nat → Int32 → Int32 → Option St} {x : Int32} : ∀ m i acc f σ, i + m = (nmL (aN α) n).length → m < f → acc ≤ 9 * 100 ^ i → InvW α v n σ → ∃ σ', f_X3_weigh_b81 K f σ d x (nI n) (lN acc) (nI i) = f_X3_weigh_b138 K σ' d x (nI n) (lN (prA α (aSH α d).2.2 n m i acc)) ∧ InvW α v n σ' := by
  intro m
  induction m with
  | zero =>
    intro i acc f σ hi hf ha hI
    obtain ⟨f, rfl⟩ : ∃ x, f = x + 1 := ⟨f - 1, by omega⟩
    obtain ⟨n1, n2, n3, n4⟩ := sz_C ho hI.1 hn
    rw [f_X3_weigh_b81, chk_in n1 (by omega), nI_clamp (by omega), n4, if_pos (nI_le (by omega) (by omega))]
    exact ⟨σ, rfl, hI⟩
  | succ m ih =>
    intro i acc f σ hi hf ha hI
    obtain ⟨f, rfl⟩ : ∃ x, f = x + 1 := ⟨f - 1, by omega⟩
    obtain ⟨n1, n2, n3, n4⟩ := sz_C ho hI.1 hn
    have hpw := pow6 (show i ≤ 6 by omega)
    rw [f_X3_weigh_b81, chk_in n1 (by omega), nI_clamp (by omega), n4, if_neg (nI_ge (show i < (nmL (aN α) n).length by omega) (by omega))]
    by_cases h0 : acc = 0
    · subst h0
      rw [if_pos (show lN 0 = (0 : Int64) from rfl), prA_0]
      exact ⟨σ, rfl, hI⟩
    · have hl := ltr_lt ho n i
      obtain ⟨σ1, x1, x2, x3⟩ := partsL_C ho hI.1 hl ((aSH α d).2.2 i)
      have hp := ptv_le α (ltr (aN α) n i) ((aSH α d).2.2 i) 0
      rw [if_neg (fun z => h0 ((lN_z (by omega)).mp z)), e_X6_at ho hI.1 hn (show i < (nmL (aN α) n).length by omega), bnd2_e, letterAt_C ho hI.1 hd ht (by omega), bnd2_e]
      have el : laN (aSH α d).2.1 (aSH α d).2.2 i = lvN ((aSH α d).2.2 i) := if_pos (by omega)
      rw [el, x1, bnd2_e, nI_l (show ptv α (ltr (aN α) n i) ((aSH α d).2.2 i) 0 < 2 ^ 31 by omega), lN_mul, prA, nI_p1]
      simp only [bnd_e]
      refine ih (i + 1) _ f σ1 (by omega) (by omega) ?_ (hI.fr x2 x3)
      rw [Nat.pow_succ, ← Nat.mul_assoc]
      exact Nat.mul_le_mul ha hp
theorem absC_152 {α : Ab} {σ : St} (h : AbsC α σ) (v : Nat → Int64) (w : Int64) : AbsC α (sJ (sL σ 152 0 v) 153 0 w) := ⟨h.1, h.2.1, h.2.2.1, law_cong rfl (fun _ => rfl) (fun _ => rfl) h.2.2.2.1, h.2.2.2.2⟩
theorem weigh_put {k : Nat} {α : Ab} (ho : OkA k α) {n d : Nat} (hn : n < (aN α).length) {v : Nat → Nat} (hv : ∀ j, j < (aN α).length → v j ≤ 9000000000000) {K : St → Nat → Int32 → Int32 → Option St} {x : Int32} {σ : St} (hI : InvW α v n σ) {R : St → Prop} (hK : ∀ σ', InvW α v (n + 1) σ' → ∃ σ2, K σ' d x (nI (n + 1)) = some σ2 ∧ R σ2) : ∃ σ2, f_X3_weigh_b138 K σ d x (nI n) (lN (v n)) = some σ2 ∧ R σ2 := by
  obtain ⟨n1, n2, n3, n4⟩ := sz_C ho hI.1 hn
  unfold f_X3_weigh_b138
  rw [chk_in n1 (by omega), nI_clamp (by omega)]
  simp only [bnd_e, nI_p1]
  refine hK _ ⟨absC_152 hI.1 _ _, fun j hj => ?_, ?_⟩
  · show vp_updL (σ.2.2.2.1 152 0) n (lN (v n)) j = lN (v j)
    by_cases e : j = n
    · subst e; exact pk_uLs
    · rw [pk_uLn e]; exact hI.2.1 j (by omega)
  · show σ.2.1 153 0 + lN (v n) = lN (smsN v (n + 1))
    rw [hI.2.2, lN_add]
    rfl
theorem weigh_loop {k : Nat} {α : Ab} (ho : OkA k α) {d : Nat} (hd : d < 6) (ht : 51 ≤ (aSH α d).1) (x : Int32) : ∀ m n f σ, n + m = (aN α).length → m < f → InvW α (pcN α d x) n σ → ∃ σ', f_X3_weigh_b7 f σ d x (nI n) = some σ' ∧ InvW α (pcN α d x) (aN α).length σ' := by
  have hl := (oNm ho).1
  intro m
  induction m with
  | zero =>
    intro n f σ hi hf hI
    obtain ⟨f, rfl⟩ : ∃ x, f = x + 1 := ⟨f - 1, by omega⟩
    have e : n = (aN α).length := by omega
    subst e
    rw [f_X3_weigh_b7, hI.1.1.1, if_pos (nI_le (Nat.le_refl _) (by omega))]
    exact ⟨σ, rfl, hI⟩
  | succ m ih =>
    intro n f σ hi hf hI
    obtain ⟨f, rfl⟩ : ∃ x, f = x + 1 := ⟨f - 1, by omega⟩
    have hn : n < (aN α).length := by omega
    obtain ⟨n1, n2, n3, n4⟩ := sz_C ho hI.1 hn
    obtain ⟨r1, r2, r3⟩ := row_C ho hI.1 hd ht
    have hv : ∀ j, j < (aN α).length → pcN α d x j ≤ 9000000000000 := fun j hj => pc_le ho d x hj
    have next : ∀ σ', InvW α (pcN α d x) (n + 1) σ' → ∃ σ2, f_X3_weigh_b7 f σ' d x (nI (n + 1)) = some σ2 ∧ InvW α (pcN α d x) (aN α).length σ2 := fun σ' h => ih (n + 1) f σ' (by omega) (by omega) h
    have zero : ∀ σ1, InvW α (pcN α d x) n σ1 → pcN α d x n = 0 → ∃ σ2, f_X3_weigh_b54 (f_X3_weigh_b7 f) σ1 d x (nI n) = some σ2 ∧ InvW α (pcN α d x) (aN α).length σ2 := by
      intro σ1 h1 h0
      unfold f_X3_weigh_b54 f_X3_weigh_b55
      rw [if_pos rfl, f_X3_weigh_b81, chk_in n1 (by omega), if_pos (show (0 : Int64) = 0 from rfl), ite_self]
      have := weigh_put ho hn hv h1 (K := f_X3_weigh_b7 f) (d := d) (x := x) next
      rw [h0] at this
      exact this
    have some_ : ∀ σ1, InvW α (pcN α d x) n σ1 → (nmL (aN α) n).length = (aSH α d).2.1 → pcN α d x n = prN α d n → ∃ σ2, f_X3_weigh_b50 (f_X3_weigh_b7 f) σ1 d x (nI n) = some σ2 ∧ InvW α (pcN α d x) (aN α).length σ2 := by
      intro σ1 h1 hlen h0
      unfold f_X3_weigh_b50 f_X3_weigh_b55
      have hK := (oNm ho).2.2.2 n
      rw [if_neg one_n0, chk_in n1 (by omega), nI_clamp (by omega), (h1.1.1.2 n hn).2.1, nI_l (by omega), bnd_e]
      obtain ⟨σ2, e1, e2⟩ := weigh_in ho hn hd ht hlen (K := f_X3_weigh_b7 f) (x := x) (nmL (aN α) n).length 0 (aK α n) 256 σ1 (by omega) (by omega) (by omega) h1
      have e1' : f_X3_weigh_b81 (f_X3_weigh_b7 f) 256 σ1 d x (nI n) (lN (aK α n)) (0 : Int32) = _ := e1
      have h3 : prA α (aSH α d).2.2 n (nmL (aN α) n).length 0 (aK α n) = pcN α d x n := by
        rw [h0]
        unfold prN
        rw [if_pos hlen]
      rw [e1', h3]
      exact weigh_put ho hn hv e2 next
    rw [f_X3_weigh_b7, hI.1.1.1, if_neg (nI_ge hn (by omega)), chk_in n1 (by omega), nI_clamp (by omega), n4, r2]
    by_cases hlen : (nmL (aN α) n).length = (aSH α d).2.1
    · rw [if_pos (congrArg nI hlen)]
      by_cases hx : x < 0
      · rw [if_pos hx]
        exact some_ σ hI hlen (if_pos (Or.inl hx))
      · rw [if_neg hx]
        have hs : f_X6_sumOf σ (nI n) = some (nI (smN α n), σ) := sumOf_C ho hI.1 hn (nmL (aN α) n).length 0 0 256 (by omega) (by omega) (by omega)
        rw [hs, bnd2_e]
        by_cases hq : nI (smN α n) = x
        · rw [if_pos hq]
          exact some_ σ hI hlen (if_pos (Or.inr hq))
        · rw [if_neg hq]
          exact zero σ hI (if_neg (fun z => z.elim hx hq))
    · rw [if_neg (nI_lit_ne hlen (by omega) (by omega))]
      refine zero σ hI ?_
      have : prN α d n = 0 := if_neg hlen
      unfold pcN
      rw [this, ite_self]
theorem weigh_C {k : Nat} {α : Ab} {σ : St} (ho : OkA k α) (hc : AbsC α σ) {d : Nat} (hd : d < 6) (ht : (aSH α d).1 = 51) (x : Int32) : ∃ σ', f_X3_weigh σ d x = some σ' ∧ InvW α (pcN α d x) (aN α).length σ' := by
  have hl := (oNm ho).1
  unfold f_X3_weigh
  refine weigh_loop ho hd (by omega) x (aN α).length 0 256 (sJ σ 153 0 0) (by omega) (by omega) ⟨?_, fun j hj => absurd hj (Nat.not_lt_zero j), rfl⟩
  exact ⟨hc.1, hc.2.1, hc.2.2.1, law_cong rfl (fun _ => rfl) (fun _ => rfl) hc.2.2.2.1, hc.2.2.2.2⟩
/-! the model weighs -/
def InvP (α : Ab) (v : Nat → Nat) (n : Nat) (τ : St) : Prop := AbsM α τ ∧ ∀ j, j < n → τ.2.2.2.1 620 0 j = lN (v j)
theorem InvP.fr {α : Ab} {v : Nat → Nat} {n : Nat} {τ τ' : St} (h : InvP α v n τ) (hf : FrM τ τ') (hm : AbsM α τ') : InvP α v n τ' := ⟨hm, fun j hj => by rw [hf.2.2.2]; exact h.2 j hj⟩
theorem prod_in {k : Nat} {α : Ab} (ho : OkA k α) {n d : Nat} (hn : n < (aN α).length) (hd : d < 6) (ht : 51 ≤ (aSH α d).1) (h60 : (aSH α d).2.1 ≤ 60) (hlen : (nmL (aN α) n).length = (aSH α d).2.1) : ∀ m i acc f τ, i + m = (nmL (aN α) n).length → m < f → acc ≤ 9 * 100 ^ i → AbsM α τ → ∃ τ', f_X12_productOf_b28 f τ (nI d) (nI n) (lN acc) (nI i) = some (lN (prA α (aSH α d).2.2 n m i acc), τ') ∧ FrM τ τ' ∧ AbsM α τ' := by
  intro m
  induction m with
  | zero =>
    intro i acc f τ hi hf ha hm
    obtain ⟨f, rfl⟩ : ∃ x, f = x + 1 := ⟨f - 1, by omega⟩
    obtain ⟨n1, n2, n3, n4⟩ := sz_M ho hm hn
    rw [f_X12_productOf_b28, chk_in n1 (by omega), nI_clamp (by omega), n4, if_pos (nI_le (by omega) (by omega))]
    exact ⟨τ, rfl, FrM.rf τ, hm⟩
  | succ m ih =>
    intro i acc f τ hi hf ha hm
    obtain ⟨f, rfl⟩ : ∃ x, f = x + 1 := ⟨f - 1, by omega⟩
    obtain ⟨n1, n2, n3, n4⟩ := sz_M ho hm hn
    have hpw := pow6 (show i ≤ 6 by omega)
    rw [f_X12_productOf_b28, chk_in n1 (by omega), nI_clamp (by omega), n4, if_neg (nI_ge (show i < (nmL (aN α) n).length by omega) (by omega))]
    by_cases h0 : acc = 0
    · subst h0
      rw [if_pos (show lN 0 ≤ (0 : Int64) from Int64.le_refl _), prA_0]
      exact ⟨τ, rfl, FrM.rf τ, hm⟩
    · have hl := ltr_lt ho n i
      obtain ⟨τ1, x1, x2, x3⟩ := partL_M ho hm hl ((aSH α d).2.2 i)
      have hp := ptv_le α (ltr (aN α) n i) ((aSH α d).2.2 i) 0
      have hz : ¬ lN acc ≤ (0 : Int64) := fun z => by
        have := (pk_lLE (b := 0) (by omega) (by omega)).mp z
        omega
      rw [if_neg hz, e_X12_at1 ho hm hn (show i < (nmL (aN α) n).length by omega), bnd2_e, itemAt_M hm hd ht (by omega) h60, bnd2_e, x1, bnd2_e, nI_l (show ptv α (ltr (aN α) n i) ((aSH α d).2.2 i) 0 < 2 ^ 31 by omega), lN_mul, prA, nI_p1]
      simp only [bnd_e]
      obtain ⟨τ2, y1, y2, y3⟩ := ih (i + 1) (acc * ptv α (ltr (aN α) n i) ((aSH α d).2.2 i) 0) f τ1 (by omega) (by omega) (by
        rw [Nat.pow_succ, ← Nat.mul_assoc]
        exact Nat.mul_le_mul ha hp) x3
      exact ⟨τ2, y1, x2.tr y2, y3⟩
theorem productOf_M {k : Nat} {α : Ab} {τ : St} (ho : OkA k α) (hm : AbsM α τ) {n d : Nat} (hn : n < (aN α).length) (hd : d < 6) (ht : 51 ≤ (aSH α d).1) : ∃ τ', f_X12_productOf τ (nI d) (nI n) = some (lN (prN α d n), τ') ∧ FrM τ τ' ∧ AbsM α τ' := by
  obtain ⟨n1, n2, n3, n4⟩ := sz_M ho hm hn
  have h60 : (aSH α d).2.1 ≤ 60 := by rcases sh3 ho hd with z | z | z <;> omega
  have hK := (oNm ho).2.2.2 n
  unfold f_X12_productOf prN
  rw [chk_in hd (by omega), chk_in n1 (by omega), nI_clamp (by omega), nI_clamp (by omega), n4, (row_M hm hd ht).1]
  by_cases hlen : (nmL (aN α) n).length = (aSH α d).2.1
  · rw [if_pos (congrArg nI hlen.symm), if_pos hlen, chk_i2 (show n < 179 by omega) (by omega), (hm.1.2 n hn).2.1, nI_l (by omega), bnd_e]
    exact prod_in ho hn hd ht h60 hlen (nmL (aN α) n).length 0 (aK α n) 256 τ (by omega) (by omega) (by omega) hm
  · rw [if_neg (nI_lit_ne (fun z => hlen z.symm) (by omega) (by omega)), if_neg hlen]
    exact ⟨τ, rfl, FrM.rf τ, hm⟩
theorem absM_620 {α : Ab} {τ : St} (h : AbsM α τ) (v : Nat → Int64) : AbsM α (sL τ 620 0 v) := ⟨h.1, h.2.1, lawM_cong rfl rfl h.2.2.1, h.2.2.2⟩
theorem prods_loop {k : Nat} {α : Ab} (ho : OkA k α) {d : Nat} (hd : d < 6) (ht : 51 ≤ (aSH α d).1) : ∀ m n f τ, n + m = (aN α).length → m < f → InvP α (prN α d) n τ → ∃ τ', f_X12_asksProducts_b5 f τ (nI d) (lN (smsN (prN α d) n)) (nI n) = some (lN (smsN (prN α d) (aN α).length), τ') ∧ InvP α (prN α d) (aN α).length τ' := by
  have hl := (oNm ho).1
  intro m
  induction m with
  | zero =>
    intro n f τ hi hf hI
    obtain ⟨f, rfl⟩ : ∃ x, f = x + 1 := ⟨f - 1, by omega⟩
    have e : n = (aN α).length := by omega
    subst e
    rw [f_X12_asksProducts_b5, hI.1.1.1, if_pos (nI_le (Nat.le_refl _) (by omega))]
    exact ⟨τ, rfl, hI⟩
  | succ m ih =>
    intro n f τ hi hf hI
    obtain ⟨f, rfl⟩ : ∃ x, f = x + 1 := ⟨f - 1, by omega⟩
    have hn : n < (aN α).length := by omega
    obtain ⟨n1, n2, n3, n4⟩ := sz_M ho hI.1 hn
    obtain ⟨τ1, x1, x2, x3⟩ := productOf_M ho hI.1 hn hd ht
    have hI1 := hI.fr x2 x3
    rw [f_X12_asksProducts_b5, hI.1.1.1, if_neg (nI_ge hn (by omega)), x1, bnd2_e, chk_in n1 (by omega), nI_clamp (by omega)]
    simp only [bnd_e, nI_p1]
    rw [chk_i2 n1 (by omega)]
    have e2 : (sL τ1 620 0 (vp_updL (τ1.2.2.2.1 620 0) n (lN (prN α d n)))).2.2.2.1 620 0 n = lN (prN α d n) := pk_uLs
    rw [e2, lN_add]
    refine ih (n + 1) f _ (by omega) (by omega) ⟨absM_620 x3 _, fun j hj => ?_⟩
    show vp_updL (τ1.2.2.2.1 620 0) n (lN (prN α d n)) j = lN (prN α d j)
    by_cases e : j = n
    · subst e; exact pk_uLs
    · rw [pk_uLn e]; exact hI1.2 j (by omega)
theorem prods_M {k : Nat} {α : Ab} {τ : St} (ho : OkA k α) (hm : AbsM α τ) {d : Nat} (hd : d < 6) (ht : (aSH α d).1 = 51) : ∃ τ', f_X12_asksProducts τ (nI d) = some (lN (smsN (prN α d) (aN α).length), τ') ∧ InvP α (prN α d) (aN α).length τ' := by
  have hl := (oNm ho).1
  exact prods_loop ho hd (by omega) (aN α).length 0 256 τ (by omega) (by omega) ⟨hm, fun j hj => absurd hj (Nat.not_lt_zero j)⟩
theorem pc_m1 (α : Ab) (d : Nat) : pcN α d (-1) = prN α d := by
  funext n
  exact if_pos (Or.inl (by decide))
theorem sums_b {k : Nat} {α : Ab} (ho : OkA k α) (d : Nat) : smsN (prN α d) (aN α).length ≤ 90000000000000 := by
  have hl := (oNm ho).1
  have h := sums_le (v := prN α d) (c := 9000000000000) (n := (aN α).length) (fun j hj => pr_le ho d hj)
  have h2 : (aN α).length * 9000000000000 ≤ 10 * 9000000000000 := Nat.mul_le_mul_right _ hl
  omega
