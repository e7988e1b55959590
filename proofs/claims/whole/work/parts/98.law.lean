/-! THE LAW is read -/
def uLT (α : Ab) (LW : Option LF) : Ab := (α.1, α.2.1, LW, [], α.2.2.2.2)
theorem absC_LT {α : Ab} {σ σ' : St} {LW : Option LF} (h : AbsC α σ) (h1 : ∀ f o, f ≠ 351 → f ≠ 352 → f ≠ 203 → σ'.1 f o = σ.1 f o) (h2 : ∀ f o, f ≠ 257 → ¬ (200 ≤ f ∧ f ≤ 202) → σ'.2.2.1 f o = σ.2.2.1 f o) (h4 : σ'.2.2.2.1 = σ.2.2.2.1) (hT : σ'.1 351 0 = 0) (hK : CacheC (uLT α LW) (σ'.2.2.1 256 0) (σ'.2.2.1 257 0)) (hL : LawC LW σ') (hR : RefC σ'.2.2.2.2) : AbsC (uLT α LW) σ' := by
  obtain ⟨a, b, c, d, e⟩ := σ
  obtain ⟨a', b', c', d', e'⟩ := σ'
  cases (show d' = d from h4)
  have g : ∀ f o, f ≠ 351 → f ≠ 352 → f ≠ 203 → a' f o = a f o := h1
  have i : ∀ f o, f ≠ 257 → ¬ (200 ≤ f ∧ f ≤ 202) → c' f o = c f o := h2
  refine ⟨?_, ?_, hK, hL, hR, ⟨hT, fun x hx => absurd hx (Nat.not_lt_zero _)⟩, ?_, ?_, ?_, ?_, ?_⟩
  · show NamesP _ _ (a' 303 0) (c' 301 0) (c' 300 0) (c' 302 0)
    rw [g 303 0 (by decide) (by decide) (by decide), i 301 0 (by decide) (by decide), i 300 0 (by decide) (by decide), i 302 0 (by decide) (by decide)]
    exact h.1
  · show LineC _ _ _ _ (c' 250 0) (c' 251 0) (c' 252 0) (a' 253 0)
    rw [g 253 0 (by decide) (by decide) (by decide), i 250 0 (by decide) (by decide), i 251 0 (by decide) (by decide), i 252 0 (by decide) (by decide)]
    exact h.2.1
  · show ChgC _ _ (c' 0 0) (c' 1 0) (c' 2 0) (c' 3 0) (a' 4 0) (a' 5 0) (a' 6 0)
    rw [i 0 0 (by decide) (by decide), i 1 0 (by decide) (by decide), i 2 0 (by decide) (by decide), i 3 0 (by decide) (by decide), g 4 0 (by decide) (by decide) (by decide), g 5 0 (by decide) (by decide) (by decide), g 6 0 (by decide) (by decide) (by decide)]
    exact h.2.2.2.2.2.2.1
  · have q := h.2.2.2.2.2.2.2.1
    unfold DeedC at *
    show a' 52 0 = _ ∧ a' 56 0 = _ ∧ a' 53 0 = _ ∧ a' 54 0 = _ ∧ a' 55 0 = _ ∧ (_ → a' 57 0 = _ ∧ ∀ i, i < 6 → c' 50 0 i = _ ∧ (_ → c' 51 0 i = _))
    rw [g 52 0 (by decide) (by decide) (by decide), g 53 0 (by decide) (by decide) (by decide), g 54 0 (by decide) (by decide) (by decide), g 55 0 (by decide) (by decide) (by decide), g 56 0 (by decide) (by decide) (by decide), g 57 0 (by decide) (by decide) (by decide), i 50 0 (by decide) (by decide), i 51 0 (by decide) (by decide)]
    exact q
  · refine ⟨(g 561 0 (by decide) (by decide) (by decide)).trans h.2.2.2.2.2.2.2.2.1.1, fun x hx => ?_⟩
    have q := h.2.2.2.2.2.2.2.2.1.2 x hx
    unfold DeedC at *
    show a' 52 1 = _ ∧ a' 56 1 = _ ∧ a' 53 1 = _ ∧ a' 54 1 = _ ∧ a' 55 1 = _ ∧ (_ → a' 57 1 = _ ∧ ∀ i, i < 6 → c' 50 1 i = _ ∧ (_ → c' 51 1 i = _))
    rw [g 52 1 (by decide) (by decide) (by decide), g 53 1 (by decide) (by decide) (by decide), g 54 1 (by decide) (by decide) (by decide), g 55 1 (by decide) (by decide) (by decide), g 56 1 (by decide) (by decide) (by decide), g 57 1 (by decide) (by decide) (by decide), i 50 1 (by decide) (by decide), i 51 1 (by decide) (by decide)]
    exact q
  · show SpellP _ _ _ (a' 502 0) (c' 500 0) (a' 503 0) (c' 501 0)
    rw [g 502 0 (by decide) (by decide) (by decide), g 503 0 (by decide) (by decide) (by decide), i 500 0 (by decide) (by decide), i 501 0 (by decide) (by decide)]
    exact h.2.2.2.2.2.2.2.2.2.1
  · intro j hj
    have q := h.2.2.2.2.2.2.2.2.2.2 j hj
    show (_ → a' 401 j = _) ∧ (_ → a' 401 j = _) ∧ (_ → a' 401 j = _ ∧ a' 402 j = _ ∧ a' 403 j = _ ∧ _)
    rw [g 401 j (by decide) (by decide) (by decide), g 402 j (by decide) (by decide) (by decide), g 403 j (by decide) (by decide) (by decide)]
    exact q
theorem absM_LT {α : Ab} {τ τ' : St} {LW : Option LF} (h : AbsM α τ) (h1 : ∀ f o, f ≠ 610 → ¬ (612 ≤ f ∧ f ≤ 617) → τ'.1 f o = τ.1 f o) (h2 : ∀ f o, f ≠ 611 → τ'.2.2.1 f o = τ.2.2.1 f o) (h3 : τ'.2.2.2 = τ.2.2.2) (hT : τ'.1 610 0 = 0) (hL : LawM LW τ') : AbsM (uLT α LW) τ' := by
  obtain ⟨a, b, c, e⟩ := τ
  obtain ⟨a', b', c', e'⟩ := τ'
  cases (show e' = e from h3)
  have g : ∀ f o, f ≠ 610 → ¬ (612 ≤ f ∧ f ≤ 617) → a' f o = a f o := h1
  have i : ∀ f o, f ≠ 611 → c' f o = c f o := h2
  refine ⟨?_, ?_, hL, ⟨hT, fun x hx => absurd hx (Nat.not_lt_zero _)⟩, ?_, ?_, ?_, ?_, ?_⟩
  · show NamesP _ _ (a' 606 0) (c' 607 0) (c' 608 0) (c' 600 0)
    rw [g 606 0 (by decide) (by decide), i 607 0 (by decide), i 608 0 (by decide), i 600 0 (by decide)]
    exact h.1
  · show LineM _ _ _ _ (c' 600 0)
    rw [i 600 0 (by decide)]
    exact h.2.1
  · show ChgM _ _ (c' 601 0) (c' 602 0) (c' 603 0) (a' 604 0) (a' 605 0)
    rw [i 601 0 (by decide), i 602 0 (by decide), i 603 0 (by decide), g 604 0 (by decide) (by decide), g 605 0 (by decide) (by decide)]
    exact h.2.2.2.2.1
  · have q := h.2.2.2.2.2.1
    unfold DeedM at *
    show a' 623 0 = _ ∧ a' 628 0 = _ ∧ a' 629 0 = _ ∧ a' 630 0 = _ ∧ (_ → a' 625 0 = _ ∧ a' 624 0 = _ ∧ ∀ i, i < 6 → c' 626 0 i = _ ∧ c' 627 0 i = _)
    rw [g 623 0 (by decide) (by decide), g 628 0 (by decide) (by decide), g 629 0 (by decide) (by decide), g 630 0 (by decide) (by decide), g 625 0 (by decide) (by decide), g 624 0 (by decide) (by decide), i 626 0 (by decide), i 627 0 (by decide)]
    exact q
  · show a' 631 0 = _ ∧ ∀ d, _ → ImgM d (c' 632 0)
    rw [g 631 0 (by decide) (by decide), i 632 0 (by decide)]
    exact h.2.2.2.2.2.2.1
  · show SpellP _ _ _ (a' 633 0) (c' 634 0) (a' 636 0) (c' 635 0)
    rw [g 633 0 (by decide) (by decide), g 636 0 (by decide) (by decide), i 634 0 (by decide), i 635 0 (by decide)]
    exact h.2.2.2.2.2.2.2.1
  · show ShelfM _ (c' 639 0) (c' 640 0) _
    rw [i 639 0 (by decide), i 640 0 (by decide)]
    exact h.2.2.2.2.2.2.2.2
theorem okA_LT {k : Nat} {α : Ab} (h : OkA k α) (LW : Option LF) : OkA k (uLT α LW) := ⟨h.1, h.2.1, ⟨Nat.zero_le _, fun i => by
  show ([] : List Nat).getD i 0 < 256
  rw [List.getD_eq_getElem?_getD, List.getElem?_nil]
  decide⟩, h.2.2.2⟩
theorem copy_M {n : Nat} (hn : n ≤ 120) : ∀ m i f τ, n - i ≤ m → i ≤ n → n - i < f → ∃ F, f_X12_law_b37 f τ (nI n) (nI i) = some (1, sI (sA τ 611 0 F) 612 0 (nI n)) ∧ (∀ x, i ≤ x → x < n → F x = τ.2.2.1 609 0 x) ∧ ∀ x, x < i → F x = τ.2.2.1 611 0 x := by
  intro m
  induction m with
  | zero =>
    intro i f τ hm hi hf
    obtain ⟨f, rfl⟩ : ∃ x, f = x + 1 := ⟨f - 1, by omega⟩
    refine ⟨τ.2.2.1 611 0, ?_, fun x h1 h2 => by omega, fun x _ => rfl⟩
    rw [f_X12_law_b37, if_pos (nI_le (show n ≤ i by omega) (by omega)), sA_self]
  | succ m ih =>
    intro i f τ hm hi hf
    obtain ⟨f, rfl⟩ : ∃ x, f = x + 1 := ⟨f - 1, by omega⟩
    by_cases e : i < n
    · obtain ⟨F, q1, q2, q3⟩ := ih (i + 1) f (sA τ 611 0 (upd (τ.2.2.1 611 0) i (τ.2.2.1 609 0 i))) (by omega) (by omega) (by omega)
      rw [sA_sA] at q1
      refine ⟨F, ?_, fun x h1 h2 => ?_, fun x hx => ?_⟩
      · rw [f_X12_law_b37, if_neg (nI_ge e (by omega)), chk_in (show i < 120 by omega) (by omega), chk_in (show i < 120 by omega) (by omega), nI_clamp (by omega), bnd_e, bnd_e, nI_p1]
        exact q1
      · by_cases h : x = i
        · rw [h, q3 i (by omega), sA_at, pk_us]
        · exact q2 x (by omega) h2
      · rw [q3 x (by omega), sA_at, pk_un (by omega)]
    · refine ⟨τ.2.2.1 611 0, ?_, fun x h1 h2 => by omega, fun x _ => rfl⟩
      rw [f_X12_law_b37, if_pos (nI_le (show n ≤ i by omega) (by omega)), sA_self]
/-- the six values -/
def ev6 (a n e s h k : Int32) : Nat → Int32 := fun i => if i = 0 then a else if i = 1 then n else if i = 2 then e else if i = 3 then s else if i = 4 then h else if i = 5 then k else 0
theorem evN_6 (v : Nat → Int32) : evN v = ev6 (v 0) (v 1) (v 2) (v 3) (v 4) (v 5) := by
  funext i
  unfold evN ev6
  by_cases h0 : i = 0
  · subst h0; rfl
  by_cases h1 : i = 1
  · subst h1; rfl
  by_cases h2 : i = 2
  · subst h2; rfl
  by_cases h3 : i = 3
  · subst h3; rfl
  by_cases h4 : i = 4
  · subst h4; rfl
  by_cases h5 : i = 5
  · subst h5; rfl
  rw [if_neg (show ¬ i < 6 by omega), if_neg h0, if_neg h1, if_neg h2, if_neg h3, if_neg h4, if_neg h5]
theorem sA_cm (σ : St) (j : Nat) (F G : Nat → Int32) : sA (sA σ 202 j G) 201 j F = sA (sA σ 201 j F) 202 j G := by
  refine sA_ext rfl rfl (fun f o => ?_) rfl
  show (if f = 201 ∧ o = j then F else if f = 202 ∧ o = j then G else σ.2.2.1 f o) = (if f = 202 ∧ o = j then G else if f = 201 ∧ o = j then F else σ.2.2.1 f o)
  by_cases h1 : f = 201 ∧ o = j
  · rw [if_pos h1, if_neg (show ¬ (f = 202 ∧ o = j) by omega), if_pos h1]
  · rw [if_neg h1, if_neg h1]
theorem law_sem {c : List Int32} {g : GF} (hT : Txt c g) (hl : c.length ≤ 121) {cd : Nat → Int32} (hcd : ∀ x, x < c.length → cd x = c.getD x 0) : LawSem cd (nI c.length) (fun a n e s h k => g (ev6 a n e s h k)) := by
  intro σ j a n e s h k h200 h203
  obtain ⟨F, q⟩ := hT (sA σ 202 j (upd (upd (upd (upd (upd (upd (σ.2.2.1 202 j) 0 a) 1 n) 2 e) 3 s) 4 h) 5 k)) j 0 (255 - c.length) c.length (fun x hx => by
    show σ.2.2.1 200 j (0 + x) = _
    rw [Nat.zero_add, h200]
    exact hcd x hx) (by omega) hl h203
  rw [show 255 - c.length + c.length + 1 = 256 by omega, sA_at, evN_6] at q
  have e1 : f_X4_worth σ j a n e s h k = f_X4_worth_b54 256 (sA σ 202 j (upd (upd (upd (upd (upd (upd (σ.2.2.1 202 j) 0 a) 1 n) 2 e) 3 s) 4 h) 5 k)) j (nI 0) 0 (nI 0) := by
    unfold f_X4_worth
    simp only [bnd_e, sA_at, sA_sA, kc0, kc1, kc2, kc3, kc4, kc5]
    rfl
  refine ⟨_, e1.trans q, ?_, F, _, sA_cm _ _ _ _⟩
  show g _ = g _
  congr 1
/-- the model's text, before the first byte is read -/
def wS (τ : St) (p1 p2 : Int32) : St := sI (sI (sI (sI (sI τ 613 0 p1) 614 0 0) 615 0 p2) 616 0 (-1)) 617 0 0
theorem wS_e (τ : St) (p1 p2 : Int32) : f_X12_workOut τ p1 p2 = f_X12_workOut_b33 256 (wS τ p1 p2) 0 0 1 := by
  unfold f_X12_workOut wS
  rw [bnd_e]
theorem wS_fr (τ : St) (p1 p2 : Int32) : (wS τ p1 p2).2 = τ.2 ∧ ∀ f o, ¬ (613 ≤ f ∧ f ≤ 617) → (wS τ p1 p2).1 f o = τ.1 f o := by
  refine ⟨rfl, fun f o h => ?_⟩
  unfold wS
  rw [sI_ne _ _ (by omega), sI_ne _ _ (by omega), sI_ne _ _ (by omega), sI_ne _ _ (by omega), sI_ne _ _ (by omega)]
theorem wS_ok {t : Nat → Nat} {len : Nat} {τ : St} {p1 : Int32} (h : (p1 = -1 ∧ ∀ x, x < len → τ.2.2.1 609 0 x = nI (t x)) ∨ (p1 = 0 ∧ ∀ x, x < len → τ.2.2.1 611 0 x = nI (t x))) : MSt t len 0 0 (wS τ p1 (nI len)) := by
  have h613 : (wS τ p1 (nI len)).1 613 0 = p1 := by
    unfold wS
    rw [sI_ne _ _ (by omega), sI_ne _ _ (by omega), sI_ne _ _ (by omega), sI_ne _ _ (by omega), sI_at]
  have h614 : (wS τ p1 (nI len)).1 614 0 = 0 := by
    unfold wS
    rw [sI_ne _ _ (by omega), sI_ne _ _ (by omega), sI_ne _ _ (by omega), sI_at]
  have h615 : (wS τ p1 (nI len)).1 615 0 = nI len := by
    unfold wS
    rw [sI_ne _ _ (by omega), sI_ne _ _ (by omega), sI_at]
  have h616 : (wS τ p1 (nI len)).1 616 0 = -1 := by
    unfold wS
    rw [sI_ne _ _ (by omega), sI_at]
  have h617 : (wS τ p1 (nI len)).1 617 0 = 0 := by
    unfold wS
    rw [sI_at]
  refine ⟨⟨h615, ?_⟩, h614, h616, h617⟩
  rw [h613]
  exact h
