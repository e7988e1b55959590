/-! what may fail, and doesn't -/
def ok {β : Type} (o : Option β) (P : β → Prop) : Prop := ∃ v, o = some v ∧ P v
theorem ok_some {β : Type} {v : β} {P : β → Prop} (h : P v) : ok (some v) P := ⟨v, rfl, h⟩
theorem ok_imp {β : Type} {o : Option β} {P Q : β → Prop} (h : ok o P) (hi : ∀ v, P v → Q v) : ok o Q := by
  obtain ⟨v, h1, h2⟩ := h
  exact ⟨v, h1, hi v h2⟩
theorem ok_bnd {α β : Type} {e : α} {k : α → Option β} {P : β → Prop} (h : ok (k e) P) : ok (bnd e k) P := h
theorem ok_bnd1 {α β : Type} {o : Option α} {k : α → Option β} {R : α → Prop} {P : β → Prop} (h1 : ok o R) (h2 : ∀ v, R v → ok (k v) P) : ok (bnd1 o k) P := by
  obtain ⟨v, e, hr⟩ := h1
  rw [e]
  exact h2 v hr
theorem ok_bnd2 {α β : Type} {o : Option (α × St)} {k : α → St → Option β} {R : α × St → Prop} {P : β → Prop} (h1 : ok o R) (h2 : ∀ v u, R (v, u) → ok (k v u) P) : ok (bnd2 o k) P := by
  obtain ⟨v, e, hr⟩ := h1
  rw [e]
  exact h2 v.1 v.2 hr
theorem ok_chk {β : Type} {c : Prop} [Decidable c] {x : Option β} {P : β → Prop} (hc : ¬ c) (h : ok x P) : ok (chk c x) P := by
  unfold chk
  rw [if_neg hc]
  exact h
theorem ok_if {β : Type} {c : Prop} [Decidable c] {x y : Option β} {P : β → Prop} (h1 : c → ok x P) (h2 : ¬ c → ok y P) : ok (if c then x else y) P := by
  by_cases h : c
  · rw [if_pos h]; exact h1 h
  · rw [if_neg h]; exact h2 h
theorem ok_pos {β : Type} {c : Prop} [Decidable c] {x y : Option β} {P : β → Prop} (hc : c) (h : ok x P) : ok (if c then x else y) P := by rw [if_pos hc]; exact h
theorem ok_neg {β : Type} {c : Prop} [Decidable c] {x y : Option β} {P : β → Prop} (hc : ¬ c) (h : ok y P) : ok (if c then x else y) P := by rw [if_neg hc]; exact h
theorem ok_eq {β : Type} {o : Option β} {v : β} {P : β → Prop} (e : o = some v) (h : P v) : ok o P := ⟨v, e, h⟩
theorem ok_chkB {o : Option (Int32 × St)} {P : Int32 × St → Prop} (h : ok o (fun v => (v.1 = 0 ∨ v.1 = 1) ∧ P v)) : ok (chkB o) P := by
  obtain ⟨v, e, h1, h2⟩ := h
  refine ⟨v, ?_, h2⟩
  rw [e]
  unfold chkB
  exact if_pos h1
theorem ok_chkB1 {o : Option Int32} {P : Int32 → Prop} (h : ok o (fun v => (v = 0 ∨ v = 1) ∧ P v)) : ok (chkB1 o) P := by
  obtain ⟨v, e, h1, h2⟩ := h
  refine ⟨v, ?_, h2⟩
  rw [e]
  unfold chkB1
  exact if_pos h1
theorem bnd_e {α β : Type} (e : α) (k : α → β) : bnd e k = k e := rfl
theorem bnd1_e {α β : Type} (v : α) (k : α → Option β) : bnd1 (some v) k = k v := rfl
theorem bnd2_e {α β : Type} (v : α) (u : St) (k : α → St → Option β) : bnd2 (some (v, u)) k = k v u := rfl
theorem chk_e {β : Type} {c : Prop} [Decidable c] {x : Option β} (hc : ¬ c) : chk c x = x := by unfold chk; rw [if_neg hc]
/-- a place that is there -/
theorem in_nI {j n : Nat} (h : j < n) (hn : n ≤ 2000000000) : ¬ (nI j < 0 ∨ n ≤ (nI j).toNatClampNeg) := vp_in_nI h (by omega)
/-! true, false -/
def tf (p : Prop) [Decidable p] : Int32 := if p then 1 else 0
theorem tf_01 (p : Prop) [Decidable p] : tf p = 0 ∨ tf p = 1 := by
  unfold tf
  by_cases h : p
  · rw [if_pos h]; exact Or.inr rfl
  · rw [if_neg h]; exact Or.inl rfl
theorem tf_t {p : Prop} [Decidable p] (h : p) : tf p = 1 := if_pos h
theorem tf_f {p : Prop} [Decidable p] (h : ¬ p) : tf p = 0 := if_neg h
theorem tf_0 {p : Prop} [Decidable p] : tf p = 0 ↔ ¬ p := by
  by_cases h : p
  · rw [tf_t h]; exact ⟨fun z => absurd z (by decide), fun z => absurd h z⟩
  · rw [tf_f h]; exact ⟨fun _ => h, fun _ => rfl⟩
theorem tf_iff {p q : Prop} [Decidable p] [Decidable q] (h : p ↔ q) : tf p = tf q := by
  by_cases hp : p
  · rw [tf_t hp, tf_t (h.mp hp)]
  · rw [tf_f hp, tf_f (fun z => hp (h.mpr z))]
theorem chkB_tf {p : Prop} [Decidable p] {u : St} : chkB (some (tf p, u)) = some (tf p, u) := if_pos (tf_01 p)
theorem chkB1_tf {p : Prop} [Decidable p] : chkB1 (some (tf p)) = some (tf p) := if_pos (tf_01 p)
/-! the pure ones of both sides, in closed form -/
theorem e_X12_within (x y z : Int64) : f_X12_within x y z = some (tf (y ≤ x ∧ x ≤ z)) := by
  have h : f_X12_within0 x y z = some (tf (y ≤ x ∧ x ≤ z)) := by
    unfold f_X12_within0
    by_cases h1 : x < y
    · rw [if_pos h1, tf_f (fun q => absurd q.1 (Int64.not_le.mpr h1))]
    · rw [if_neg h1]
      by_cases h2 : z < x
      · rw [if_pos h2, tf_f (fun q => absurd q.2 (Int64.not_le.mpr h2))]
      · rw [if_neg h2, tf_t ⟨Int64.not_lt.mp h1, Int64.not_lt.mp h2⟩]
  unfold f_X12_within
  rw [h, chkB1_tf]
theorem e_X12_isLetter (x : Int64) : f_X12_isLetter x = some (tf (0 ≤ x ∧ x ≤ 11)) := by
  unfold f_X12_isLetter f_X12_isLetter0
  rw [e_X12_within, bnd1_e, chkB1_tf]
theorem e_X11_isLetter (x : Int64) : f_X11_isLetter x = some (tf (0 ≤ x ∧ x ≤ 11)) := by
  have h : f_X11_isLetter0 x = some (tf (0 ≤ x ∧ x ≤ 11)) := by
    have e12 : (12 : Int64) ≤ x ↔ ¬ x ≤ 11 := by
      rw [fa_le64, fa_le64]
      show (12 : Int) ≤ x.toInt ↔ ¬ x.toInt ≤ (11 : Int)
      omega
    unfold f_X11_isLetter0
    by_cases h1 : x < 0
    · rw [if_pos h1, tf_f (fun q => absurd q.1 (Int64.not_le.mpr h1))]
    · rw [if_neg h1]
      by_cases h2 : (12 : Int64) ≤ x
      · rw [if_pos h2, tf_f (fun q => (e12.mp h2) q.2)]
      · rw [if_neg h2, tf_t ⟨Int64.not_lt.mp h1, by
          by_cases h3 : x ≤ 11
          · exact h3
          · exact absurd (e12.mpr h3) h2⟩]
  unfold f_X11_isLetter
  rw [h, chkB1_tf]
theorem e_letter (x : Int64) : f_X11_isLetter x = f_X12_isLetter x := by rw [e_X11_isLetter, e_X12_isLetter]
theorem e_two (x : Int32) : f_X11_twoLetters x = f_X12_isTwo x := by
  unfold f_X11_twoLetters f_X12_isTwo f_X11_twoLetters0 f_X12_isTwo0
  simp only [e_letter]
theorem e_X12_isShelf (x : Int32) : f_X12_isShelf x = some (tf (0 ≤ x ∧ x ≤ 5)) := by
  unfold f_X12_isShelf f_X12_isShelf0
  rw [e_X12_within, bnd1_e, chkB1_tf]
  congr 1
  exact tf_iff (and_congr (fa_wide_le 0 x) (fa_wide_le x 5))
theorem e_X11_shelfThere (x : Int32) : f_X11_shelfThere x = some (tf (0 ≤ x ∧ x ≤ 5)) := by
  have h : f_X11_shelfThere0 x = some (tf (0 ≤ x ∧ x ≤ 5)) := by
    have e6 : (6 : Int32) ≤ x ↔ ¬ x ≤ 5 := by
      rw [fa_le, fa_le]
      show (6 : Int) ≤ x.toInt ↔ ¬ x.toInt ≤ (5 : Int)
      omega
    unfold f_X11_shelfThere0
    by_cases h1 : x < 0
    · rw [if_pos h1, tf_f (fun q => absurd q.1 (Int32.not_le.mpr h1))]
    · rw [if_neg h1]
      by_cases h2 : (6 : Int32) ≤ x
      · rw [if_pos h2, tf_f (fun q => (e6.mp h2) q.2)]
      · rw [if_neg h2, tf_t ⟨Int32.not_lt.mp h1, by
          by_cases h3 : x ≤ 5
          · exact h3
          · exact absurd (e6.mpr h3) h2⟩]
  unfold f_X11_shelfThere
  rw [h, chkB1_tf]
/-! the greatest common divisor -/
theorem lN_z {y : Nat} (h : y < 2 ^ 63) : lN y = 0 ↔ y = 0 := by
  rw [fa_eq64]
  have h1 : (lN y).toInt = (y : Int) := lg_ofNat_toInt h
  rw [h1]
  show (y : Int) = 0 ↔ y = 0
  omega
theorem half_rem {y r : Nat} (hr : 0 < r) (h : r < y) : 2 * (y % r) < y := by
  have h1 := Nat.div_add_mod y r
  have h2 := Nat.mod_lt y hr
  have h3 : 1 ≤ y / r := (Nat.one_le_div_iff hr).mpr (Nat.le_of_lt h)
  have h4 : r * 1 ≤ r * (y / r) := Nat.mul_le_mul_left r h3
  omega
theorem gcd_loop (k : Nat) : ∀ (n x y : Nat), y < 2 ^ k → x < 2 ^ 63 → y < 2 ^ 63 → 2 * k + 1 ≤ n → f_X12_commonOf_b6 n (lN x) (lN y) = some (lN (Nat.gcd x y)) := by
  induction k with
  | zero =>
    intro n x y hy hx hy2 hn
    have h0 : y = 0 := by omega
    subst h0
    obtain ⟨m, rfl⟩ : ∃ m, n = m + 1 := ⟨n - 1, by omega⟩
    rw [f_X12_commonOf_b6, if_pos ((lN_z hy2).mpr rfl), Nat.gcd_zero_right]
  | succ k ih =>
    intro n x y hy hx hy2 hn
    obtain ⟨m, rfl⟩ : ∃ m, n = m + 1 + 1 := ⟨n - 2, by omega⟩
    by_cases h0 : y = 0
    · subst h0
      rw [f_X12_commonOf_b6, if_pos ((lN_z hy2).mpr rfl), Nat.gcd_zero_right]
    · have hz : ¬ lN y = 0 := fun z => h0 ((lN_z hy2).mp z)
      rw [f_X12_commonOf_b6, if_neg hz, chk_e hz, bnd_e, pk_lRem hx (by omega) hy2]
      have hr : x % y < y := Nat.mod_lt x (by omega)
      have hg : Nat.gcd x y = Nat.gcd y (x % y) := by rw [Nat.gcd_comm x y, Nat.gcd_rec y x, Nat.gcd_comm]
      by_cases h1 : x % y = 0
      · rw [f_X12_commonOf_b6, if_pos ((lN_z (by omega)).mpr h1), hg, h1, Nat.gcd_zero_right]
      · have hz1 : ¬ lN (x % y) = 0 := fun z => h1 ((lN_z (by omega)).mp z)
        rw [f_X12_commonOf_b6, if_neg hz1, chk_e hz1, bnd_e, pk_lRem hy2 (by omega) (by omega)]
        have h2 := half_rem (Nat.pos_of_ne_zero h1) hr
        have h3 : 2 ^ (k + 1) = 2 * 2 ^ k := by rw [Nat.pow_succ, Nat.mul_comm]
        rw [ih m (x % y) (y % (x % y)) (by omega) (by omega) (by omega) (by omega)]
        have hg2 : Nat.gcd y (x % y) = Nat.gcd (x % y) (y % (x % y)) := by rw [Nat.gcd_comm y (x % y), Nat.gcd_rec (x % y) y, Nat.gcd_comm]
        rw [hg, hg2]
