/-! reading THE TAPE: class and model, step by step -/
def FrR (j : Nat) (σ σ' : St) : Prop := σ'.2.1 = σ.2.1 ∧ σ'.2.2.2 = σ.2.2.2 ∧ (∀ f o, f ≠ 352 → ¬ (f = 203 ∧ o = j) → σ'.1 f o = σ.1 f o) ∧ ∀ f o, ¬ (f = 200 ∧ o = j) → σ'.2.2.1 f o = σ.2.2.1 f o
theorem FrR.rf (j : Nat) (σ : St) : FrR j σ σ := ⟨rfl, rfl, fun _ _ _ _ => rfl, fun _ _ _ => rfl⟩
theorem FrR.tr {j : Nat} {a b c : St} (h : FrR j a b) (g : FrR j b c) : FrR j a c := ⟨g.1.trans h.1, g.2.1.trans h.2.1, fun f o h1 h2 => (g.2.2.1 f o h1 h2).trans (h.2.2.1 f o h1 h2), fun f o h1 => (g.2.2.2 f o h1).trans (h.2.2.2 f o h1)⟩
/-- the class reads: at place i, L codes so far -/
def RS (t : Nat → Nat) (len j i L : Nat) (σ : St) : Prop := σ.1 351 0 = nI len ∧ (∀ x, x < len → σ.2.2.1 350 0 x = nI (t x)) ∧ (σ.2.2.2.2 353 = j + 1 ∧ (j = 0 ∨ (j = 1 ∧ σ.2.2.2.2 0 = 2))) ∧ σ.1 352 0 = nI i ∧ σ.1 203 j = nI L ∧ L ≤ 128
theorem RS.mv {t : Nat → Nat} {len j i L : Nat} {σ : St} (h : RS t len j i L σ) (k : Nat) : RS t len j k L (sI σ 352 0 (nI k)) ∧ FrR j σ (sI σ 352 0 (nI k)) := by
  refine ⟨⟨h.1, h.2.1, h.2.2.1, sI_at _ _ _ _, ?_, h.2.2.2.2.2⟩, rfl, rfl, fun f o h1 _ => if_neg (fun z => h1 z.1), fun _ _ _ => rfl⟩
  exact h.2.2.2.2.1
/-- a code is emitted -/
theorem emit_C {t : Nat → Nat} {len j i L : Nat} {σ : St} (h : RS t len j i L σ) (c : Int32) : ∃ σ' L', f_X4_emit σ j c = some σ' ∧ RS t len j i L' σ' ∧ FrR j σ σ' ∧ (L < 128 → L' = L + 1 ∧ σ'.2.2.1 200 j L = c ∧ ∀ x, x < L → σ'.2.2.1 200 j x = σ.2.2.1 200 j x) := by
  obtain ⟨a1, a2, a3, a4, a5, a6⟩ := h
  unfold f_X4_emit
  rw [a5]
  by_cases hL : L < 128
  · rw [if_neg (show ¬ (128 : Int32) ≤ nI L from nI_ge (b := 128) hL (by omega)), chk_in hL (by omega), nI_clamp (by omega), bnd_e]
    have e1 : (sA σ 200 j (upd (σ.2.2.1 200 j) L c)).1 203 j + 1 = nI (L + 1) := by
      show σ.1 203 j + 1 = _
      rw [a5, nI_p1]
    rw [e1]
    refine ⟨_, L + 1, rfl, ⟨?_, fun x hx => ?_, a3, ?_, sI_at _ _ _ _, by omega⟩, ⟨rfl, rfl, fun f o h1 h2 => if_neg h2, fun f o h1 => if_neg h1⟩, fun _ => ⟨rfl, ?_, fun x hx => ?_⟩⟩
    · exact a1
    · exact a2 x hx
    · exact a4
    · show (sA σ 200 j (upd (σ.2.2.1 200 j) L c)).2.2.1 200 j L = c
      rw [sA_at, pk_us]
    · show (sA σ 200 j (upd (σ.2.2.1 200 j) L c)).2.2.1 200 j x = _
      rw [sA_at, pk_un (by omega)]
  · rw [if_pos (show (128 : Int32) ≤ nI L from nI_le (a := 128) (by omega) (by omega))]
    exact ⟨σ, L, rfl, ⟨a1, a2, a3, a4, a5, a6⟩, FrR.rf j σ, fun z => absurd z hL⟩
/-- what a piece of the reader does: at i; b: it is read; to i2; c: its code -/
def CC (t : Nat → Nat) (len j : Nat) (R : St → Option (Int32 × St)) (i : Nat) (b : Bool) (i2 : Nat) (c : List Int32) : Prop := ∀ L σ, L ≤ i → RS t len j i L σ → ∃ σ' L', R σ = some (tf (b = true), σ') ∧ RS t len j i2 L' σ' ∧ FrR j σ σ' ∧ (b = true → L' = L + c.length ∧ CdAt σ' j L c ∧ ∀ x, x < L → σ'.2.2.1 200 j x = σ.2.2.1 200 j x)
/-! the model -/
def SrcM (t : Nat → Nat) (len : Nat) (τ : St) : Prop := τ.1 615 0 = nI len ∧ ((τ.1 613 0 = -1 ∧ ∀ x, x < len → τ.2.2.1 609 0 x = nI (t x)) ∨ (τ.1 613 0 = 0 ∧ ∀ x, x < len → τ.2.2.1 611 0 x = nI (t x)))
def FrP (τ τ' : St) : Prop := τ'.2 = τ.2 ∧ ∀ f o, f ≠ 614 → f ≠ 616 → f ≠ 617 → τ'.1 f o = τ.1 f o
theorem FrP.rf (τ : St) : FrP τ τ := ⟨rfl, fun _ _ _ _ _ => rfl⟩
theorem FrP.tr {a b c : St} (h : FrP a b) (g : FrP b c) : FrP a c := ⟨g.1.trans h.1, fun f o h1 h2 h3 => (g.2 f o h1 h2 h3).trans (h.2 f o h1 h2 h3)⟩
theorem FrP.src {t : Nat → Nat} {len : Nat} {τ τ' : St} (h : FrP τ τ') (hs : SrcM t len τ) : SrcM t len τ' := by
  have e : τ'.2.2.1 = τ.2.2.1 := by rw [h.1]
  unfold SrcM at *
  rw [h.2 615 0 (by decide) (by decide) (by decide), h.2 613 0 (by decide) (by decide) (by decide), e]
  exact hs
/-- it works: at place i, o are open; or it has failed at place i -/
def MSt (t : Nat → Nat) (len i o : Nat) (τ : St) : Prop := SrcM t len τ ∧ τ.1 614 0 = nI i ∧ τ.1 616 0 = -1 ∧ τ.1 617 0 = nI o
def MF (t : Nat → Nat) (len i : Nat) (τ : St) : Prop := SrcM t len τ ∧ (∃ x, x ≤ len ∧ τ.1 614 0 = nI x) ∧ τ.1 616 0 = nI i
def byN (t : Nat → Nat) (len i : Nat) : Nat := if i < len then t i else 0
theorem byte_at {t : Nat → Nat} {len x : Nat} {τ : St} (hs : SrcM t len τ) (h1 : τ.1 614 0 = nI x) (hx : x ≤ len) (hl : len ≤ 120) : f_X12_byteAt τ = some (nI (byN t len x), τ) := by
  unfold f_X12_byteAt byN
  rw [hs.1, h1]
  by_cases e : x < len
  · rw [if_neg (nI_ge e (by omega)), if_pos e]
    rcases hs.2 with ⟨q1, q2⟩ | ⟨q1, q2⟩
    · rw [q1, if_neg neg1_nle, chk_in (show x < 120 by omega) (by omega), nI_clamp (by omega), q2 x e]
    · rw [q1, if_pos (show (0 : Int32) ≤ 0 by decide), Int32.zero_add, chk_in (show x < 120 by omega) (by omega), nI_clamp (by omega), q2 x e]
  · rw [if_pos (nI_le (Nat.not_lt.mp e) (by omega)), if_neg e]
    rfl
/-- what a piece of the model's reader does -/
def MM (t : Nat → Nat) (len : Nat) (M : St → Option (Int32 × St)) (i o : Nat) (b : Bool) (i2 : Nat) (g : GF) : Prop := ∀ τ, MSt t len i o τ → ∃ v τ', M τ = some (v, τ') ∧ FrP τ τ' ∧ (b = true → MSt t len i2 o τ' ∧ v = g (evN (τ.2.2.1 618 0))) ∧ (b = false → MF t len i2 τ')
/-- both: a piece of a TEXT from place i on -/
def NT (t : Nat → Nat) (len j : Nat) (R M : St → Option (Int32 × St)) (i o : Nat) : Prop := ∃ (b : Bool) (i2 : Nat) (c : List Int32) (g : GF), i ≤ i2 ∧ i2 ≤ len ∧ (b = true → i + c.length ≤ i2) ∧ CC t len j R i b i2 c ∧ MM t len M i o b i2 g ∧ (b = true → Seg c g)
/-! single bytes -/
def nmB (c : Nat) : Int32 := if c = 97 then 0 else if c = 110 then 1 else if c = 101 then 2 else if c = 115 then 3 else if c = 104 then 4 else if c = 107 then 5 else -1
theorem nameOf_e : ∀ c, c < 256 → f_X12_nameOf (nI c) = some (nmB c) := by decide +kernel
theorem idxN_e : ∀ c, c < 256 → idxN (((nI c).toUInt32 % 65536).toInt32) = nmB c := by decide +kernel
theorem nmB_k : ∀ c, c < 256 → nmB c = -1 ∨ ∃ k, k < 6 ∧ nmB c = nI k := by decide +kernel
theorem nmB_s : ∀ c, c < 256 → (c = 33 ∨ c = 45 ∨ c = 40 ∨ (48 ≤ c ∧ c ≤ 57) ∨ c = 0) → nmB c = -1 := by decide +kernel
theorem digit_e : ∀ c, c < 256 → f_X7_isDigit (nI c) = some (tf (48 ≤ c ∧ c ≤ 57)) := by decide +kernel
def rkN (c : Nat) : Nat := if c = 124 then 0 else if c = 38 then 1 else if c = 60 then 2 else if c = 61 then 2 else if c = 62 then 2 else if c = 43 then 3 else if c = 45 then 3 else if c = 42 then 4 else if c = 47 then 4 else if c = 37 then 4 else 9
theorem rankOf_e : ∀ c, c < 256 → f_X7_rankOf (nI c) = some (if rkN c = 9 then -1 else nI (rkN c)) := by decide +kernel
theorem isAt_C {t : Nat → Nat} {len j i L : Nat} {σ : St} (h : RS t len j i L σ) (hi : i ≤ len) (hl : len ≤ 120) (ht : ∀ x, t x < 256) {c : Nat} (hc0 : 0 < c) (hc : c < 256) : f_X7_isAt σ (nI c) = some (tf (byN t len i = c), σ) := by
  obtain ⟨a1, a2, a3, a4, a5, a6⟩ := h
  have h0 : f_X7_isAt0 σ (nI c) = some (tf (byN t len i = c), σ) := by
    unfold f_X7_isAt0 byN
    rw [a1, a4]
    by_cases e : i < len
    · have := ht i
      rw [if_neg (nI_ge e (by omega)), chk_in (show i < 120 by omega) (by omega), nI_clamp (by omega), a2 i e, if_pos e]
      refine ite_tf ?_ σ
      exact nI_eq (by omega) (by omega)
    · rw [if_pos (nI_le (Nat.not_lt.mp e) (by omega)), if_neg e, tf_f (by omega)]
  unfold f_X7_isAt
  rw [h0, chkB_tf]
theorem sI_ne (σ : St) {f o f' o' : Nat} (v : Int32) (h : ¬ (f' = f ∧ o' = o)) : (sI σ f o v).1 f' o' = σ.1 f' o' := if_neg h
theorem MSt.mv {t : Nat → Nat} {len i o : Nat} {τ : St} (h : MSt t len i o τ) (k : Nat) : MSt t len k o (sI τ 614 0 (nI k)) ∧ FrP τ (sI τ 614 0 (nI k)) := by
  have hf : FrP τ (sI τ 614 0 (nI k)) := ⟨rfl, fun f o h1 _ _ => if_neg (fun z => h1 z.1)⟩
  exact ⟨⟨hf.src h.1, sI_at _ _ _ _, h.2.2.1, h.2.2.2⟩, hf⟩
theorem takes_M {t : Nat → Nat} {len i o : Nat} {τ : St} (h : MSt t len i o τ) (hi : i ≤ len) (hl : len ≤ 120) (ht : ∀ x, t x < 256) {c : Nat} (hc : c < 256) : f_X12_takes τ (nI c) = if byN t len i = c then some (1, sI τ 614 0 (nI (i + 1))) else some (0, τ) := by
  have hb : byN t len i < 256 := by
    unfold byN
    have := ht i
    split <;> omega
  unfold f_X12_takes f_X12_takes0
  rw [if_neg (show ¬ 0 ≤ τ.1 616 0 by rw [h.2.2.1]; decide), byte_at h.1 h.2.1 hi hl, bnd2_e, h.2.1, nI_p1]
  by_cases e : byN t len i = c
  · rw [if_pos (congrArg nI e), if_pos e]
    rfl
  · rw [if_neg (nI_lit_ne e (by omega) (by omega)), if_neg e]
    rfl
theorem takes_F {t : Nat → Nat} {len i : Nat} {τ : St} (h : MF t len i τ) (hi : i ≤ 200) (x : Int32) : f_X12_takes τ x = some (0, τ) := by
  unfold f_X12_takes f_X12_takes0
  rw [if_pos (show 0 ≤ τ.1 616 0 by rw [h.2.2]; exact nI_0le (by omega))]
  rfl
theorem wrong_M {t : Nat → Nat} {len i o : Nat} {τ : St} (h : MSt t len i o τ) (hi : i ≤ len) : ∃ τ', f_X12_wrong τ = some (0, τ') ∧ FrP τ τ' ∧ MF t len i τ' := by
  unfold f_X12_wrong
  rw [if_neg (show ¬ 0 ≤ τ.1 616 0 by rw [h.2.2.1]; decide), h.2.1]
  have hf : FrP τ (sI τ 616 0 (nI i)) := ⟨rfl, fun f o _ h1 _ => if_neg (fun z => h1 z.1)⟩
  exact ⟨_, rfl, hf, hf.src h.1, ⟨i, hi, h.2.1⟩, sI_at _ _ _ _⟩
theorem wrong_F {t : Nat → Nat} {len i : Nat} {τ : St} (h : MF t len i τ) (hi : i ≤ 200) : ∃ τ', f_X12_wrong τ = some (0, τ') ∧ FrP τ τ' ∧ MF t len i τ' := by
  unfold f_X12_wrong
  rw [if_pos (show 0 ≤ τ.1 616 0 by rw [h.2.2]; exact nI_0le (by omega)), h.2.2]
  have hf : FrP τ (sI τ 616 0 (nI i)) := ⟨rfl, fun f o _ h1 _ => if_neg (fun z => h1 z.1)⟩
  exact ⟨_, rfl, hf, hf.src h.1, h.2.1, sI_at _ _ _ _⟩
/-! numbers -/
def nbN (t : Nat → Nat) (len : Nat) : Nat → Nat → Nat → Nat × Nat
  | 0, i, v => (i, v)
  | m + 1, i, v => if i < len ∧ (48 ≤ t i ∧ t i ≤ 57) then nbN t len m (i + 1) (10 * v + (t i - 48)) else (i, v)
theorem nb_b (t : Nat → Nat) {len : Nat} : ∀ m i v, i ≤ len → i ≤ (nbN t len m i v).1 ∧ (nbN t len m i v).1 ≤ len ∧ (nbN t len m i v).2 < 10 ^ m * (v + 1)
  | 0, i, v, hi => ⟨Nat.le_refl _, hi, by rw [nbN]; omega⟩
  | m + 1, i, v, hi => by
    rw [nbN]
    split
    · rename_i h
      obtain ⟨h1, h2, h3⟩ := nb_b t (len := len) m (i + 1) (10 * v + (t i - 48)) (by omega)
      refine ⟨by omega, h2, Nat.lt_of_lt_of_le h3 ?_⟩
      rw [Nat.pow_succ, Nat.mul_assoc]
      exact Nat.mul_le_mul_left _ (by omega)
    · refine ⟨Nat.le_refl _, hi, ?_⟩
      have h0 : 1 ≤ 10 ^ (m + 1) := Nat.pow_pos (by decide)
      have := Nat.mul_le_mul_right (v + 1) h0
      show v < 10 ^ (m + 1) * (v + 1)
      omega
theorem dig_e (v c : Nat) (h : 48 ≤ c) : nI v * (10 : Int32) + nI c - (48 : Int32) = nI (10 * v + (c - 48)) := by
  show nI v * nI 10 + nI c - nI 48 = _
  rw [pk_mul, nI_add, pk_sub (by omega), show v * 10 + c - 48 = 10 * v + (c - 48) by omega]
theorem dig_e2 (v c : Nat) (h : 48 ≤ c) : (10 : Int32) * nI v + nI c - (48 : Int32) = nI (10 * v + (c - 48)) := by
  show nI 10 * nI v + nI c - nI 48 = _
  rw [pk_mul, nI_add, pk_sub (by omega), show 10 * v + c - 48 = 10 * v + (c - 48) by omega]
theorem num_C {t : Nat → Nat} {len j : Nat} (hl : len ≤ 120) (ht : ∀ x, t x < 256) : ∀ m i v f L σ, i ≤ len → m ≤ 4 → m < f → RS t len j i L σ → ∃ σ' , f_X7_readNumber_b4 f σ (nI v) (nI (4 - m)) = f_X7_readNumber_b69 σ' (nI (nbN t len m i v).2) ∧ RS t len j (nbN t len m i v).1 L σ' ∧ FrR j σ σ' ∧ σ'.2.2.1 = σ.2.2.1 := by
  intro m
  induction m with
  | zero =>
    intro i v f L σ hi hm hf h
    obtain ⟨f, rfl⟩ : ∃ x, f = x + 1 := ⟨f - 1, by omega⟩
    rw [f_X7_readNumber_b4, if_pos (show (4 : Int32) ≤ nI (4 - 0) from Int32.le_refl _)]
    exact ⟨σ, rfl, h, FrR.rf j σ, rfl⟩
  | succ m ih =>
    intro i v f L σ hi hm hf h
    obtain ⟨f, rfl⟩ : ∃ x, f = x + 1 := ⟨f - 1, by omega⟩
    obtain ⟨a1, a2, a3, a4, a5, a6⟩ := h
    rw [f_X7_readNumber_b4, if_neg (show ¬ (4 : Int32) ≤ nI (4 - (m + 1)) from nI_ge (b := 4) (by omega) (by omega)), a1, a4, nbN]
    by_cases e : i < len
    · have hti := ht i
      rw [if_neg (nI_ge e (by omega)), chk_in (show i < 120 by omega) (by omega), chk_in (show i < 120 by omega) (by omega), nI_clamp (by omega), a2 i e, digit_e _ hti, bnd1_e]
      by_cases e2 : 48 ≤ t i ∧ t i ≤ 57
      · rw [tf_t e2, if_neg one_n0, if_pos ⟨e, e2⟩, dig_e _ _ e2.1, bnd_e, bnd_e, nI_p1, nI_p1, show 4 - (m + 1) + 1 = 4 - m by omega]
        obtain ⟨hR, hF⟩ := RS.mv (σ := σ) ⟨a1, a2, a3, a4, a5, a6⟩ (i + 1)
        obtain ⟨σ', q1, q2, q3, q4⟩ := ih (i + 1) (10 * v + (t i - 48)) f L (sI σ 352 0 (nI (i + 1))) (by omega) (by omega) (by omega) hR
        exact ⟨σ', q1, q2, hF.tr q3, q4⟩
      · rw [tf_f e2, if_pos rfl, if_neg (fun z => e2 z.2)]
        exact ⟨σ, rfl, ⟨a1, a2, a3, a4, a5, a6⟩, FrR.rf j σ, rfl⟩
    · rw [if_pos (nI_le (Nat.not_lt.mp e) (by omega)), if_neg (fun z => e z.1)]
      exact ⟨σ, rfl, ⟨a1, a2, a3, a4, a5, a6⟩, FrR.rf j σ, rfl⟩
theorem num_M {t : Nat → Nat} {len o : Nat} (hl : len ≤ 120) (ht : ∀ x, t x < 256) {rE rO : St → Option (Int32 × St)} : ∀ m i v f τ, i ≤ len → m ≤ 4 → m < f → MSt t len i o τ → ∃ τ', f_X12_one_b176 rE rO f τ (nI v) (nI (4 - m)) = f_X12_one_b229 rE rO τ' (nI (nbN t len m i v).2) (nI (4 - m + ((nbN t len m i v).1 - i))) ∧ MSt t len (nbN t len m i v).1 o τ' ∧ FrP τ τ' := by
  intro m
  induction m with
  | zero =>
    intro i v f τ hi hm hf h
    obtain ⟨f, rfl⟩ : ∃ x, f = x + 1 := ⟨f - 1, by omega⟩
    rw [f_X12_one_b176, if_pos (show (4 : Int32) ≤ nI (4 - 0) from Int32.le_refl _), nbN, Nat.sub_self]
    exact ⟨τ, rfl, h, FrP.rf τ⟩
  | succ m ih =>
    intro i v f τ hi hm hf h
    obtain ⟨f, rfl⟩ : ∃ x, f = x + 1 := ⟨f - 1, by omega⟩
    have hby := byte_at h.1 h.2.1 hi hl
    have hb256 : byN t len i < 256 := by
      unfold byN
      have := ht i
      split <;> omega
    have stop : ¬ (i < len ∧ (48 ≤ t i ∧ t i ≤ 57)) → ∃ τ', f_X12_one_b229 rE rO τ (nI v) (nI (4 - (m + 1))) = f_X12_one_b229 rE rO τ' (nI (nbN t len (m + 1) i v).2) (nI (4 - (m + 1) + ((nbN t len (m + 1) i v).1 - i))) ∧ MSt t len (nbN t len (m + 1) i v).1 o τ' ∧ FrP τ τ' := by
      intro hn
      rw [nbN, if_neg hn, Nat.sub_self]
      exact ⟨τ, rfl, h, FrP.rf τ⟩
    rw [f_X12_one_b176, if_neg (show ¬ (4 : Int32) ≤ nI (4 - (m + 1)) from nI_ge (b := 4) (by omega) (by omega)), hby, bnd2_e]
    by_cases e1 : byN t len i < 48
    · rw [if_pos (show nI (byN t len i) < 48 from nI_lt (b := 48) e1 (by omega))]
      refine stop (fun z => ?_)
      have : byN t len i = t i := if_pos z.1
      omega
    · rw [if_neg (show ¬ nI (byN t len i) < 48 from fun z => e1 ((nI_ltI (b := 48) (by omega) (by omega)).mp z)), hby, bnd2_e]
      by_cases e2 : 57 < byN t len i
      · rw [if_pos (show (57 : Int32) < nI (byN t len i) from nI_lt (a := 57) e2 (by omega))]
        refine stop (fun z => ?_)
        have : byN t len i = t i := if_pos z.1
        omega
      · rw [if_neg (show ¬ (57 : Int32) < nI (byN t len i) from fun z => e2 ((nI_ltI (a := 57) (by omega) (by omega)).mp z)), hby, bnd2_e]
        have hil : i < len := by
          by_cases z : i < len
          · exact z
          · have : byN t len i = 0 := if_neg z
            omega
        have hbt : byN t len i = t i := if_pos hil
        rw [hbt, dig_e2 _ _ (by omega), bnd_e, bnd_e, h.2.1, nI_p1, nI_p1, show 4 - (m + 1) + 1 = 4 - m by omega]
        obtain ⟨hR, hF⟩ := h.mv (i + 1)
        obtain ⟨τ', q1, q2, q3⟩ := ih (i + 1) (10 * v + (t i - 48)) f (sI τ 614 0 (nI (i + 1))) (by omega) (by omega) (by omega) hR
        obtain ⟨w1, w2, _⟩ := nb_b t m (i + 1) (10 * v + (t i - 48)) (len := len) (by omega)
        rw [nbN, if_pos ⟨hil, by omega, by omega⟩]
        rw [show 4 - m + ((nbN t len m (i + 1) (10 * v + (t i - 48))).1 - (i + 1)) = 4 - (m + 1) + ((nbN t len m (i + 1) (10 * v + (t i - 48))).1 - i) by omega] at q1
        exact ⟨τ', q1, q2, hF.tr q3⟩
