def dd0 : DD := (-1, fun _ => 0, fun _ => 0, 0, 0, 0, 0, 0)
def alp0 : Ab := (([], fun _ => 1), (fun s h => if s = h then 9 else 0, fun _ => 3, fun _ => 11, 3), none, [], ([], 0), (dd0, none), ([], 0, fun _ => 0), fun _ => (0, 0, fun _ => 0))
theorem ok0 : OkA 0 alp0 := by
  refine ⟨⟨by decide, fun n h => absurd h (Nat.not_lt_zero n), fun n i => by show 0 < 12; decide, fun n => by show 1 ≤ 9; decide⟩, ⟨fun s h => ?_, fun s h => ?_, fun s => if_pos rfl, fun l => ⟨by show 1 ≤ 3; decide, by show 3 ≤ 9; decide⟩, fun l => by show 11 ≤ 12; decide, by show 3 ≤ 9; decide⟩, ⟨by decide, fun i => by show 0 < 256; decide⟩, ⟨by decide, by decide, (fun c h => (by cases h))⟩, ⟨Or.inl ⟨rfl, rfl⟩, fun i => Nat.le_refl 0, fun i => by show 0 < 12; decide⟩, (fun d h => (by cases h)), ⟨by decide, fun i => by show 0 < 8; decide, by decide⟩, fun d _ => Or.inl rfl⟩
  · show (if s = h then 9 else 0) ≤ 9
    split <;> omega
  · show (if s = h then 9 else 0) = (if h = s then 9 else 0)
    by_cases e : s = h
    · rw [if_pos e, if_pos e.symm]
    · rw [if_neg e, if_neg (fun z => e z.symm)]
theorem al0 : ∀ s, s < 12 → ∀ h, h < 12 → s0A 250 0 (12 * s + h) = nI (if s = h then 9 else 0) := by decide +kernel
theorem lg0 : ∀ l, l < 12 → s0A 251 0 l = nI 3 ∧ s0A 252 0 l = nI 11 := by decide +kernel
theorem tt0 : ∀ j, j < 120 → s0A 257 0 j = -1 := by decide +kernel
theorem may0 : ∀ h, h < 12 → ∀ s, s < h → t0A 600 0 (10 + (12 * s + h)) = nI 0 := by decide +kernel
theorem mlg0 : ∀ l, l < 12 → t0A 600 0 (154 + l) = nI 3 ∧ t0A 600 0 (166 + l) = nI 11 := by decide +kernel
theorem msh0 : ∀ d, d < 6 → t0A 639 0 d = -1 := by decide +kernel
theorem bod0 : ∀ d, d < 6 → s0I 401 d = -1 := by decide +kernel
theorem absC0 : AbsC alp0 sig0 := by
  refine ⟨⟨rfl, fun n h => absurd h (Nat.not_lt_zero n)⟩, ⟨fun s h hs hh => al0 s hs h hh, fun l hl => lg0 l hl, rfl⟩, fun k s hk hs => Or.inl (tt0 (12 * k + s) (by omega)), rfl, ⟨Or.inl ⟨rfl, rfl, rfl, by decide⟩, by decide, by decide, by decide⟩, ⟨rfl, fun i h => absurd h (Nat.not_lt_zero i)⟩, ⟨rfl, rfl, 0, by decide, rfl, fun i h => absurd h (Nat.not_lt_zero i)⟩, ⟨rfl, rfl, rfl, rfl, rfl, fun h => absurd rfl h⟩, ⟨rfl, (fun d h => (by cases h))⟩, ⟨rfl, fun i h => absurd h (Nat.not_lt_zero i), rfl, fun i h => absurd h (Nat.not_lt_zero i)⟩, fun d hd => ⟨fun _ => bod0 d hd, fun h => absurd (show 1 ≤ 0 from h.1) (by decide), fun h => absurd (show 51 ≤ 0 from h) (by decide)⟩⟩
theorem absM0 : AbsM alp0 tau0 := by
  refine ⟨⟨rfl, fun n h => absurd h (Nat.not_lt_zero n)⟩, ⟨fun s h hs hh => ?_, fun l hl => mlg0 l hl, by decide +kernel⟩, rfl, ⟨rfl, fun i h => absurd h (Nat.not_lt_zero i)⟩, ⟨rfl, rfl, fun i h => absurd h (Nat.not_lt_zero i)⟩, ⟨rfl, rfl, rfl, rfl, fun h => absurd rfl h⟩, ⟨rfl, (fun d h => (by cases h))⟩, ⟨rfl, fun i h => absurd h (Nat.not_lt_zero i), rfl, fun i h => absurd h (Nat.not_lt_zero i)⟩, fun d hd => ⟨fun _ => msh0 d hd, fun h => absurd (show 1 ≤ 0 from h) (by decide), fun h => absurd (show 51 ≤ 0 from h) (by decide)⟩⟩
  have h1 := may0 h hh s hs
  have h2 : (if s = h then 9 else 0) = 0 := if_neg (by omega)
  show t0A 600 0 (10 + (12 * s + h)) = nI (if s = h then 9 else 0)
  rw [h2]
  exact h1
theorem rel0 : Rel 0 sig0 tau0 := ⟨alp0, ok0, absC0, absM0⟩
theorem okD_mono {N : List (List Nat)} {k : Nat} {d : DD} (h : OkD N k d) : OkD N (k + 1) d := ⟨h.1, fun i => Nat.le_succ_of_le (h.2.1 i), h.2.2⟩
theorem okA_mono {k : Nat} {α : Ab} (h : OkA k α) : OkA (k + 1) α := ⟨h.1, h.2.1, h.2.2.1, h.2.2.2.1, okD_mono h.2.2.2.2.1, fun d e => okD_mono (h.2.2.2.2.2.1 d e), h.2.2.2.2.2.2⟩
theorem rel_mono (k : Nat) (σ τ : St) (_ : k < 512) (h : Rel k σ τ) : Rel (k + 1) σ τ := by
  obtain ⟨α, h1, h2, h3⟩ := h
  exact ⟨α, okA_mono h1, h2, h3⟩
