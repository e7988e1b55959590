theorem low_loop {x0 x2 : Int64} {x4 : Int32} (k : Nat) : ∀ (n x y i : Nat), y < 2 ^ k → x < 2 ^ 63 → y < 2 ^ 63 → 2 * k + 1 ≤ n → i + 2 * k + 1 ≤ 200 → f_X11_lowest_b9 n x0 x2 x4 (lN x) (lN y) (nI i) = f_X11_lowest_b45 x0 x2 x4 (lN (Nat.gcd x y)) := by
  induction k with
  | zero =>
    intro n x y i hy hx hy2 hn hi
    have h0 : y = 0 := by omega
    subst h0
    obtain ⟨m, rfl⟩ : ∃ m, n = m + 1 := ⟨n - 1, by omega⟩
    rw [f_X11_lowest_b9, if_neg (show ¬ (200 : Int32) ≤ nI i from nI_ge (a := i) (b := 200) (by omega) (by omega)), if_pos ((lN_z hy2).mpr rfl), Nat.gcd_zero_right]
  | succ k ih =>
    intro n x y i hy hx hy2 hn hi
    obtain ⟨m, rfl⟩ : ∃ m, n = m + 1 + 1 := ⟨n - 2, by omega⟩
    have c1 : ¬ (200 : Int32) ≤ nI i := show ¬ nI 200 ≤ nI i from nI_ge (by omega) (by omega)
    have c2 : ¬ (200 : Int32) ≤ nI (i + 1) := show ¬ nI 200 ≤ nI (i + 1) from nI_ge (by omega) (by omega)
    by_cases h0 : y = 0
    · subst h0
      rw [f_X11_lowest_b9, if_neg c1, if_pos ((lN_z hy2).mpr rfl), Nat.gcd_zero_right]
    · have hz : ¬ lN y = 0 := fun z => h0 ((lN_z hy2).mp z)
      rw [f_X11_lowest_b9, if_neg c1, if_neg hz, chk_e hz, bnd_e, pk_lRem hx (by omega) hy2, bnd_e, nI_1]
      have hr : x % y < y := Nat.mod_lt x (by omega)
      have hg : Nat.gcd x y = Nat.gcd y (x % y) := by rw [Nat.gcd_comm x y, Nat.gcd_rec y x, Nat.gcd_comm]
      by_cases h1 : x % y = 0
      · rw [f_X11_lowest_b9, if_neg c2, if_pos ((lN_z (by omega)).mpr h1), hg, h1, Nat.gcd_zero_right]
      · have hz1 : ¬ lN (x % y) = 0 := fun z => h1 ((lN_z (by omega)).mp z)
        rw [f_X11_lowest_b9, if_neg c2, if_neg hz1, chk_e hz1, bnd_e, pk_lRem hy2 (by omega) (by omega), bnd_e, nI_1]
        have h2 := half_rem (Nat.pos_of_ne_zero h1) hr
        have h3 : 2 ^ (k + 1) = 2 * 2 ^ k := by rw [Nat.pow_succ, Nat.mul_comm]
        rw [ih m (x % y) (y % (x % y)) (i + 1 + 1) (by omega) (by omega) (by omega) (by omega) (by omega)]
        have hg2 : Nat.gcd y (x % y) = Nat.gcd (x % y) (y % (x % y)) := by rw [Nat.gcd_comm y (x % y), Nat.gcd_rec (x % y) y, Nat.gcd_comm]
        rw [hg, hg2]
/-- a fraction in lowest terms -/
def frac (a b part : Nat) : Int64 := if part = 0 then lN (a / Nat.gcd b a) else lN (b / Nat.gcd b a)
theorem gcd_pos {a b : Nat} (hb : 0 < b) : 0 < Nat.gcd b a := Nat.pos_of_ne_zero (fun h => by
  have := Nat.eq_zero_of_gcd_eq_zero_left h
  omega)
theorem gcd_lt {a b : Nat} (hb : 0 < b) (h : b < 2 ^ 62) : Nat.gcd b a < 2 ^ 63 := by
  have := Nat.le_of_dvd hb (Nat.gcd_dvd_left b a)
  omega
theorem e_lowest {a b part : Nat} (ha : a < 2 ^ 62) (hb : 0 < b) (hb2 : b < 2 ^ 62) (hp : part < 2) : f_X11_lowest (lN a) (lN b) (nI part) = some (frac a b part) := by
  unfold f_X11_lowest
  rw [show (0 : Int32) = nI 0 from rfl, low_loop 62 256 b a 0 ha (by omega) (by omega) (by omega) (by omega)]
  have hg := gcd_pos (a := a) hb
  have hl := gcd_lt (a := a) hb hb2
  have hz : ¬ lN (Nat.gcd b a) = 0 := fun z => by have := (lN_z hl).mp z; omega
  unfold f_X11_lowest_b45 frac
  rw [if_neg hz]
  rcases (show part = 0 ∨ part = 1 by omega) with rfl | rfl
  · rw [if_pos (show nI 0 = 0 from rfl), chk_e hz, pk_lDiv (by omega) hg hl, if_pos rfl]
  · rw [if_neg (show ¬ nI 1 = 0 by decide), chk_e hz, pk_lDiv (by omega) hg hl, if_neg (by decide)]
theorem e_partOf {a b part : Nat} (ha : a < 2 ^ 62) (hb : 0 < b) (hb2 : b < 2 ^ 62) (hp : part < 2) : f_X12_partOf (lN a) (lN b) (nI part) = some (frac a b part) := by
  unfold f_X12_partOf
  by_cases h0 : a = 0
  · subst h0
    rw [if_pos ((lN_z (by omega)).mpr rfl)]
    unfold frac
    rcases (show part = 0 ∨ part = 1 by omega) with rfl | rfl
    · rw [if_pos rfl, Nat.zero_div]; rfl
    · rw [if_neg (by decide), Nat.gcd_zero_right, Nat.div_self hb]; rfl
  · rw [if_neg (fun z => h0 ((lN_z (by omega)).mp z))]
    unfold f_X12_commonOf
    rw [gcd_loop 62 256 b a ha (by omega) (by omega) (by omega), bnd1_e]
    have hg := gcd_pos (a := a) hb
    have hl := gcd_lt (a := a) hb hb2
    have hz : ¬ lN (Nat.gcd b a) = 0 := fun z => by have := (lN_z hl).mp z; omega
    unfold frac
    rcases (show part = 0 ∨ part = 1 by omega) with rfl | rfl
    · rw [if_pos (show nI 0 = 0 from rfl), chk_e hz, pk_lDiv (by omega) hg hl, if_pos rfl]
    · rw [if_neg (show ¬ nI 1 = 0 by decide), chk_e hz, pk_lDiv (by omega) hg hl, if_neg (by decide)]
/-! powers of a hundred -/
theorem lN_mulE (a b : Nat) : lN a * lN b = lN (a * b) := lN_mul a b
theorem pow_loop : ∀ (d n i : Nat), d + 1 ≤ n → i + d ≤ 100 → f_X12_powerOf_b4 n (nI (i + d)) (lN (100 ^ i)) (nI i) = some (lN (100 ^ (i + d))) := by
  intro d
  induction d with
  | zero =>
    intro n i hn hi
    obtain ⟨m, rfl⟩ : ∃ m, n = m + 1 := ⟨n - 1, by omega⟩
    rw [f_X12_powerOf_b4, if_pos (show nI (i + 0) ≤ nI i from Int32.le_refl _)]
    rfl
  | succ d ih =>
    intro n i hn hi
    obtain ⟨m, rfl⟩ : ∃ m, n = m + 1 := ⟨n - 1, by omega⟩
    rw [f_X12_powerOf_b4, if_neg (nI_ge (by omega) (by omega)), bnd_e, bnd_e, show (100 : Int64) = lN 100 from rfl, lN_mulE, nI_1, show i + (d + 1) = (i + 1) + d by omega]
    exact ih m (i + 1) (by omega) (by omega)
theorem e_powerOf {n : Nat} (h : n ≤ 6) : f_X12_powerOf (nI n) = some (lN (100 ^ n)) := by
  have := pow_loop n 256 0 (by omega) (by omega)
  rw [Nat.zero_add] at this
  exact this
theorem e_hundA {n : Nat} (h : n ≤ 6) : hundA n = lN (100 ^ n) := by
  rcases (show n = 0 ∨ n = 1 ∨ n = 2 ∨ n = 3 ∨ n = 4 ∨ n = 5 ∨ n = 6 by omega) with rfl | rfl | rfl | rfl | rfl | rfl | rfl <;> rfl
/-! small ranges of ints -/
theorem rng_of {x : Int32} {n : Nat} (hn : n < 2 ^ 30) (h : 0 ≤ x ∧ x ≤ nI n) : ∃ j, j ≤ n ∧ x = nI j := by
  obtain ⟨j, hj, rfl⟩ := nI_of (Int32.not_lt.mpr h.1)
  exact ⟨j, (nI_leI (by omega) (by omega)).mp h.2, rfl⟩
theorem rng_iff {x : Int32} {n : Nat} (hn : n < 2 ^ 30) : (0 ≤ x ∧ x ≤ nI n) ↔ ∃ j, j ≤ n ∧ x = nI j :=
  ⟨rng_of hn, fun ⟨j, hj, e⟩ => by subst e; exact ⟨nI_pos' (by omega), nI_le hj (by omega)⟩⟩
theorem e_X11_fractionPart (x : Int32) : f_X11_fractionPart x = some (tf (x = 0 ∨ x = 1)) := by
  have h : f_X11_fractionPart0 x = some (tf (x = 0 ∨ x = 1)) := by
    unfold f_X11_fractionPart0
    by_cases h1 : x = 0
    · rw [if_pos h1, tf_t (Or.inl h1)]
    · by_cases h2 : x = 1
      · rw [if_neg h1, if_pos h2, tf_t (Or.inr h2)]
      · rw [if_neg h1, if_neg h2, tf_f (fun q => q.elim h1 h2)]
  unfold f_X11_fractionPart
  rw [h, chkB1_tf]
theorem w32 (x lo hi : Int32) : f_X12_within x.toInt64 lo.toInt64 hi.toInt64 = some (tf (lo ≤ x ∧ x ≤ hi)) := by
  rw [e_X12_within]
  congr 1
  exact tf_iff (and_congr (fa_wide_le lo x) (fa_wide_le x hi))
