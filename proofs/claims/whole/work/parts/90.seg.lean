/-! THE LAW: what its code means -/
abbrev GF : Type := (Nat → Int32) → Int32
def evN (v : Nat → Int32) : Nat → Int32 := fun i => if i < 6 then v i else 0
def opv (s : Nat) (x y : Int32) : Int32 := if s = 33 then (if x = 0 then 1 else 0) else if s = 38 then (if x = 0 then 0 else if y = 0 then 0 else 1) else if s = 42 then x * y else if s = 43 then x + y else if s = 45 then x - y else if s = 47 then (if y = 0 then 0 else x / y) else if s = 60 then (if y ≤ x then 0 else 1) else if s = 61 then (if x = y then 1 else 0) else if s = 62 then (if x ≤ y then 0 else 1) else if s = 124 then (if x = 0 then (if y = 0 then 0 else 1) else 1) else if s = 126 then -x else (if y = 0 then 0 else x - x / y * y)
theorem some_ite {β : Type} {c : Prop} [Decidable c] (x y : β) : (if c then some x else some y) = some (if c then x else y) := by
  by_cases h : c
  · rw [if_pos h, if_pos h]
  · rw [if_neg h, if_neg h]
theorem chk_ite {β : Type} {y : Int32} {x : β} {z : β} : (if y = 0 then some z else chk (y = 0) (some x)) = some (if y = 0 then z else x) := by
  by_cases h : y = 0
  · rw [if_pos h, if_pos h]
  · rw [if_neg h, if_neg h, chk_e h]
def sgnL : List Nat := [33, 37, 38, 42, 43, 45, 47, 60, 61, 62, 124, 126]
theorem made_e {s : Nat} (hs : s ∈ sgnL) (x y : Int32) : f_X4_made (nI s) x y = some (opv s x y) := by
  have h : s = 33 ∨ s = 37 ∨ s = 38 ∨ s = 42 ∨ s = 43 ∨ s = 45 ∨ s = 47 ∨ s = 60 ∨ s = 61 ∨ s = 62 ∨ s = 124 ∨ s = 126 := by
    simp only [sgnL, List.mem_cons, List.not_mem_nil, or_false] at hs
    exact hs
  unfold f_X4_made opv
  rcases h with h | h | h | h | h | h | h | h | h | h | h | h
  · subst h
    rw [if_pos (by decide), some_ite]
    rfl
  · subst h
    rw [if_neg (by decide), if_neg (by decide), if_neg (by decide), if_neg (by decide), if_neg (by decide), if_neg (by decide), if_neg (by decide), if_neg (by decide), if_neg (by decide), if_neg (by decide), if_neg (by decide), chk_ite]
    rfl
  · subst h
    rw [if_neg (by decide), if_pos (by decide), some_ite, some_ite]
    rfl
  · subst h; rfl
  · subst h; rfl
  · subst h; rfl
  · subst h
    rw [if_neg (by decide), if_neg (by decide), if_neg (by decide), if_neg (by decide), if_neg (by decide), if_pos (by decide), chk_ite]
    rfl
  · subst h
    rw [if_neg (by decide), if_neg (by decide), if_neg (by decide), if_neg (by decide), if_neg (by decide), if_neg (by decide), if_pos (by decide), some_ite]
    rfl
  · subst h
    rw [if_neg (by decide), if_neg (by decide), if_neg (by decide), if_neg (by decide), if_neg (by decide), if_neg (by decide), if_neg (by decide), if_pos (by decide), some_ite]
    rfl
  · subst h
    rw [if_neg (by decide), if_neg (by decide), if_neg (by decide), if_neg (by decide), if_neg (by decide), if_neg (by decide), if_neg (by decide), if_neg (by decide), if_pos (by decide), some_ite]
    rfl
  · subst h
    rw [if_neg (by decide), if_neg (by decide), if_neg (by decide), if_neg (by decide), if_neg (by decide), if_neg (by decide), if_neg (by decide), if_neg (by decide), if_neg (by decide), if_pos (by decide), some_ite, some_ite]
    rfl
  · subst h; rfl
/-- operands of a sign -/
def ary (s : Nat) : Nat := if s = 33 ∨ s = 126 then 1 else 2
theorem sgn_f : ∀ s, s ∈ sgnL → ¬ (-nI s : Int32) = -59 ∧ ¬ (-nI s : Int32) = -63 ∧ ¬ (-6 : Int32) ≤ -nI s ∧ ((-nI s : Int32) = -126 ↔ s = 126) ∧ ((-nI s : Int32) = -33 ↔ s = 33) ∧ -(-nI s : Int32) = nI s := by decide
def CdAt (σ : St) (j i : Nat) (c : List Int32) : Prop := ∀ x, x < c.length → σ.2.2.1 200 j (i + x) = c.getD x 0
/-- a piece of code that gives one value -/
def Seg (c : List Int32) (g : GF) : Prop := 1 ≤ c.length ∧ ∀ (σ : St) (j i u n L : Nat), CdAt σ j i c → i + c.length ≤ L → L ≤ 121 → σ.1 203 j = nI L → u ≤ i → (∃ F, f_X4_worth_b54 (n + c.length) σ j (nI u) 0 (nI i) = f_X4_worth_b54 n (sA σ 201 j F) j (nI (u + 1)) 0 (nI (i + c.length)) ∧ F u = g (evN (σ.2.2.1 202 j)) ∧ ∀ x, x < u → F x = σ.2.2.1 201 j x) ∧ f_X4_worth_b54 (n + c.length) σ j (nI u) 1 (nI i) = f_X4_worth_b54 n σ j (nI u) 1 (nI (i + c.length))
theorem sA201_1 (σ : St) (j : Nat) (F : Nat → Int32) : (sA σ 201 j F).1 = σ.1 := rfl
theorem sA201_200 (σ : St) (j : Nat) (F : Nat → Int32) : (sA σ 201 j F).2.2.1 200 j = σ.2.2.1 200 j := rfl
theorem sA201_202 (σ : St) (j : Nat) (F : Nat → Int32) : (sA σ 201 j F).2.2.1 202 j = σ.2.2.1 202 j := rfl
theorem sA_at (σ : St) (f o : Nat) (F : Nat → Int32) : (sA σ f o F).2.2.1 f o = F := if_pos ⟨rfl, rfl⟩
/-- one step over a piece that was passed by -/
theorem step_skip {σ : St} {j i u n L : Nat} {c : Int32} (hL : σ.1 203 j = nI L) (hiL : i < L) (hL2 : L ≤ 121) (hc : σ.2.2.1 200 j i = c) (h1 : ¬ c = -59) (h2 : ¬ c = -63) : f_X4_worth_b54 (n + 1) σ j (nI u) 1 (nI i) = f_X4_worth_b54 n σ j (nI u) 1 (nI (i + 1)) := by
  rw [f_X4_worth_b54, hL, if_neg (nI_ge hiL (by omega)), chk_in (show i < 128 by omega) (by omega), nI_clamp (by omega), hc, bnd_e, if_neg h1]
  unfold f_X4_worth_b91
  rw [if_neg h1, if_neg h2, if_neg one_n0, bnd_e, nI_p1]
/-- one step that puts a value on the stack -/
theorem step_push {σ : St} {j i u n L : Nat} {c v : Int32} (hL : σ.1 203 j = nI L) (hiL : i < L) (hL2 : L ≤ 121) (hu : u ≤ i) (hc : σ.2.2.1 200 j i = c) (h1 : ¬ c = -59) (h2 : ¬ c = -63) (h3 : (-6 : Int32) ≤ c) (hv : (if c < 0 then (chk ((-1 : Int32) - c < 0 ∨ 6 ≤ ((-1 : Int32) - c).toNatClampNeg) (f_X4_worth_b235 (f_X4_worth_b54 n) σ j (nI u) 0 (nI i) (σ.2.2.1 202 j ((-1 : Int32) - c).toNatClampNeg) (nI u))) else (f_X4_worth_b235 (f_X4_worth_b54 n) σ j (nI u) 0 (nI i) c (nI u))) = f_X4_worth_b235 (f_X4_worth_b54 n) σ j (nI u) 0 (nI i) v (nI u)) : f_X4_worth_b54 (n + 1) σ j (nI u) 0 (nI i) = f_X4_worth_b54 n (sA σ 201 j (upd (σ.2.2.1 201 j) u v)) j (nI (u + 1)) 0 (nI (i + 1)) := by
  rw [f_X4_worth_b54, hL, if_neg (nI_ge hiL (by omega)), chk_in (show i < 128 by omega) (by omega), nI_clamp (by omega), hc, bnd_e, if_neg h1]
  unfold f_X4_worth_b91
  rw [if_neg h1, if_neg h2, if_pos (show (0 : Int32) = 0 from rfl), if_pos h3, hv]
  unfold f_X4_worth_b235 f_X4_worth_b236
  rw [chk_in (show u < 129 by omega) (by omega), nI_clamp (by omega), nI_p1, if_neg (show ¬ (127 : Int32) < nI (u + 1) from fun z => by
    have := (nI_ltI (a := 127) (by omega) (by omega)).mp z
    omega)]
  simp only [bnd_e, nI_p1]
theorem seg_num {v : Nat} (hv : v < 10000) : Seg [nI v] (fun _ => nI v) := by
  refine ⟨Nat.le_refl 1, ?_⟩
  intro σ j i u n L hc hi hL h203 hu
  have hi' : i + 1 ≤ L := hi
  have h0 : σ.2.2.1 200 j i = nI v := hc 0 Nat.zero_lt_one
  have g1 : ¬ nI v = -59 := fun z => nI_n0 (show v < 2 ^ 31 by omega) (by rw [z]; decide)
  have g2 : ¬ nI v = -63 := fun z => nI_n0 (show v < 2 ^ 31 by omega) (by rw [z]; decide)
  have g3 : (-6 : Int32) ≤ nI v := by
    rw [fa_le, nI_toInt (by omega)]
    have : (-6 : Int32).toInt = -6 := by decide
    omega
  refine ⟨⟨upd (σ.2.2.1 201 j) u (nI v), step_push h203 (by omega) hL hu h0 g1 g2 g3 (if_neg (nI_n0 (by omega))), pk_us, fun x hx => pk_un (by omega)⟩, step_skip h203 (by omega) hL h0 g1 g2⟩
theorem name_f : ∀ k, k < 6 → ¬ ((-1 : Int32) - nI k) = -59 ∧ ¬ ((-1 : Int32) - nI k) = -63 ∧ (-6 : Int32) ≤ (-1 : Int32) - nI k ∧ ((-1 : Int32) - nI k) < 0 ∧ (-1 : Int32) - ((-1 : Int32) - nI k) = nI k := by decide
theorem seg_name {k : Nat} (hk : k < 6) : Seg [(-1 : Int32) - nI k] (fun e => e k) := by
  refine ⟨Nat.le_refl 1, ?_⟩
  intro σ j i u n L hc hi hL h203 hu
  have hi' : i + 1 ≤ L := hi
  have h0 : σ.2.2.1 200 j i = (-1 : Int32) - nI k := hc 0 Nat.zero_lt_one
  obtain ⟨g1, g2, g3, g4, g5⟩ := name_f k hk
  have ee : evN (σ.2.2.1 202 j) k = σ.2.2.1 202 j k := if_pos hk
  refine ⟨⟨upd (σ.2.2.1 201 j) u (σ.2.2.1 202 j k), step_push h203 (by omega) hL hu h0 g1 g2 g3 ?_, pk_us.trans ee.symm, fun x hx => pk_un (by omega)⟩, step_skip h203 (by omega) hL h0 g1 g2⟩
  rw [if_pos g4, g5, chk_in hk (by omega), nI_clamp (by omega)]
/-- one step of a sign -/
theorem step_sign {σ : St} {j i u n L s : Nat} (hs : s ∈ sgnL) (hL : σ.1 203 j = nI L) (hiL : i < L) (hL2 : L ≤ 121) (hu : u ≤ i) (hu2 : ary s ≤ u) (hc : σ.2.2.1 200 j i = -nI s) : f_X4_worth_b54 (n + 1) σ j (nI u) 0 (nI i) = f_X4_worth_b54 n (sA σ 201 j (upd (σ.2.2.1 201 j) (u - ary s) (opv s (σ.2.2.1 201 j (u - ary s)) (σ.2.2.1 201 j (u - ary s + 1))))) j (nI (u - ary s + 1)) 0 (nI (i + 1)) := by
  obtain ⟨g1, g2, g3, g4, g5, g6⟩ := sgn_f s hs
  have h165 : ∀ r : Nat, r ≤ 2 → r ≤ u → f_X4_worth_b165 (f_X4_worth_b54 n) σ j (nI u) 0 (nI i) (-nI s) (nI r) = f_X4_worth_b54 n (sA σ 201 j (upd (σ.2.2.1 201 j) (u - r) (opv s (σ.2.2.1 201 j (u - r)) (σ.2.2.1 201 j (u - r + 1))))) j (nI (u - r + 1)) 0 (nI (i + 1)) := by
    intro r hr hru
    unfold f_X4_worth_b165 f_X4_worth_b236
    have e0 : (if nI u - nI r < 0 then (0 : Int32) else nI u - nI r) = nI (u - r) := by
      rw [pk_sub hru, if_neg (nI_n0 (by omega))]
    rw [e0, bnd_e, nI_p1, chk_in (show u - r < 129 by omega) (by omega), chk_in (show u - r + 1 < 129 by omega) (by omega), nI_clamp (show u - r < 2 ^ 31 by omega), nI_clamp (show u - r + 1 < 2 ^ 31 by omega), g6, made_e hs, bnd1_e, chk_i2 (show u - r < 129 by omega) (by omega), bnd_e, if_neg (show ¬ (127 : Int32) < nI (u - r + 1) from fun z => by
      have := (nI_ltI (a := 127) (by omega) (by omega)).mp z
      omega), bnd_e, bnd_e, nI_p1]
  rw [f_X4_worth_b54, hL, if_neg (nI_ge hiL (by omega)), chk_in (show i < 128 by omega) (by omega), nI_clamp (by omega), hc, bnd_e, if_neg g1]
  unfold f_X4_worth_b91 f_X4_worth_b160
  rw [if_neg g1, if_neg g2, if_pos (show (0 : Int32) = 0 from rfl), if_neg g3]
  unfold ary at hu2 ⊢
  by_cases e1 : s = 126
  · rw [if_pos (g4.mpr e1), if_pos (Or.inr e1)]
    rw [if_pos (Or.inr e1)] at hu2
    exact h165 1 (by omega) hu2
  · rw [if_neg (fun z => e1 (g4.mp z))]
    by_cases e2 : s = 33
    · rw [if_pos (g5.mpr e2), if_pos (Or.inl e2)]
      rw [if_pos (Or.inl e2)] at hu2
      exact h165 1 (by omega) hu2
    · rw [if_neg (fun z => e2 (g5.mp z)), if_neg (fun z => z.elim e2 e1)]
      rw [if_neg (fun z => z.elim e2 e1)] at hu2
      exact h165 2 (by omega) hu2
theorem cd_l {σ : St} {j i : Nat} {a b : List Int32} (h : CdAt σ j i (a ++ b)) : CdAt σ j i a := fun x hx => by
  have := h x (by rw [List.length_append]; omega)
  rw [List.getD_eq_getElem?_getD, List.getElem?_append_left hx, ← List.getD_eq_getElem?_getD] at this
  exact this
theorem cd_r {σ : St} {j i : Nat} {a b : List Int32} (h : CdAt σ j i (a ++ b)) : CdAt σ j (i + a.length) b := fun x hx => by
  have := h (a.length + x) (by rw [List.length_append]; omega)
  rw [List.getD_eq_getElem?_getD, List.getElem?_append_right (by omega), show a.length + x - a.length = x by omega, ← List.getD_eq_getElem?_getD, ← Nat.add_assoc] at this
  exact this
theorem cd_1 {σ : St} {j i : Nat} {c : Int32} (h : CdAt σ j i [c]) : σ.2.2.1 200 j i = c := h 0 Nat.zero_lt_one
theorem seg_un {c : List Int32} {g : GF} {s : Nat} (hs : s ∈ sgnL) (ha : ary s = 1) (h : Seg c g) : Seg (c ++ [-nI s]) (fun e => opv s (g e) 0) := by
  have hlen : (c ++ [-nI s]).length = c.length + 1 := by rw [List.length_append]; rfl
  refine ⟨by omega, ?_⟩
  intro σ j i u n L hc hi hL h203 hu
  have hc0 := h.1
  rw [hlen] at hi ⊢
  obtain ⟨g1, g2, _⟩ := sgn_f s hs
  have hcs := cd_1 (cd_r hc)
  have hop : ∀ x y : Int32, opv s x y = opv s x 0 := by
    intro x y
    unfold ary at ha
    have : s = 33 ∨ s = 126 := by
      by_cases q : s = 33 ∨ s = 126
      · exact q
      · rw [if_neg q] at ha; exact absurd ha (by decide)
    rcases this with q | q <;> subst q <;> rfl
  obtain ⟨⟨F, a1, a2, a3⟩, a4⟩ := h.2 σ j i u (n + 1) L (cd_l hc) (by omega) hL h203 hu
  refine ⟨⟨upd F u (opv s (F u) (F (u + 1))), ?_, ?_, fun x hx => ?_⟩, ?_⟩
  · rw [show n + (c.length + 1) = n + 1 + c.length by omega, a1, step_sign (σ := sA σ 201 j F) (L := L) hs h203 (by omega) hL (by omega) (by omega) hcs, ha, show u + 1 - 1 = u by omega, sA_at, sA_sA]
    rw [show i + c.length + 1 = i + (c.length + 1) by omega]
  · rw [pk_us, hop, a2]
  · rw [pk_un (by omega)]; exact a3 x hx
  · rw [show n + (c.length + 1) = n + 1 + c.length by omega, a4, step_skip h203 (by omega) hL hcs g1 g2, show i + c.length + 1 = i + (c.length + 1) by omega]
theorem seg_bin {c1 c2 : List Int32} {g1 g2 : GF} {s : Nat} (hs : s ∈ sgnL) (ha : ary s = 2) (h1 : Seg c1 g1) (h2 : Seg c2 g2) : Seg (c1 ++ c2 ++ [-nI s]) (fun e => opv s (g1 e) (g2 e)) := by
  have hlen : (c1 ++ c2 ++ [-nI s]).length = c1.length + c2.length + 1 := by rw [List.length_append, List.length_append]; rfl
  refine ⟨by omega, ?_⟩
  intro σ j i u n L hc hi hL h203 hu
  have hc1 := h1.1
  have hc2 := h2.1
  rw [hlen] at hi ⊢
  obtain ⟨q1, q2, _⟩ := sgn_f s hs
  have hcs : σ.2.2.1 200 j (i + c1.length + c2.length) = -nI s := by
    have := cd_1 (cd_r hc)
    rw [List.length_append, ← Nat.add_assoc] at this
    exact this
  obtain ⟨⟨F, a1, a2, a3⟩, a4⟩ := h1.2 σ j i u (n + 1 + c2.length) L (cd_l (cd_l hc)) (by omega) hL h203 hu
  obtain ⟨⟨E, b1, b2, b3⟩, _⟩ := h2.2 (sA σ 201 j F) j (i + c1.length) (u + 1) (n + 1) L (cd_r (cd_l hc)) (by omega) hL h203 (by omega)
  obtain ⟨_, b4⟩ := h2.2 σ j (i + c1.length) u (n + 1) L (cd_r (cd_l hc)) (by omega) hL h203 (by omega)
  refine ⟨⟨upd E u (opv s (E u) (E (u + 1))), ?_, ?_, fun x hx => ?_⟩, ?_⟩
  · rw [show n + (c1.length + c2.length + 1) = n + 1 + c2.length + c1.length by omega, a1, b1, sA_sA, step_sign (σ := sA σ 201 j E) (L := L) hs h203 (by omega) hL (by omega) (by omega) hcs, ha, show u + 1 + 1 - 2 = u by omega, sA_at, sA_sA]
    rw [show i + c1.length + c2.length + 1 = i + (c1.length + c2.length + 1) by omega]
  · rw [pk_us, b3 u (by omega), sA_at, a2, b2, sA201_202]
  · rw [pk_un (by omega), b3 x (by omega), sA_at]; exact a3 x hx
  · rw [show n + (c1.length + c2.length + 1) = n + 1 + c2.length + c1.length by omega, a4, b4, step_skip h203 (by omega) hL hcs q1 q2, show i + c1.length + c2.length + 1 = i + (c1.length + c2.length + 1) by omega]
