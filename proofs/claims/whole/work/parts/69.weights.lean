/-! frames: what working out WEIGHTS may touch -/
def FrC (σ σ' : St) : Prop := σ'.1 = σ.1 ∧ σ'.2.1 = σ.2.1 ∧ σ'.2.2.2 = σ.2.2.2 ∧ ∀ f o, f ≠ 201 → f ≠ 202 → f ≠ 256 → f ≠ 257 → σ'.2.2.1 f o = σ.2.2.1 f o
theorem FrC.rf (σ : St) : FrC σ σ := ⟨rfl, rfl, rfl, fun _ _ _ _ _ _ => rfl⟩
theorem FrC.tr {a b c : St} (h : FrC a b) (g : FrC b c) : FrC a c := ⟨g.1.trans h.1, g.2.1.trans h.2.1, g.2.2.1.trans h.2.2.1, fun f o h1 h2 h3 h4 => (g.2.2.2 f o h1 h2 h3 h4).trans (h.2.2.2 f o h1 h2 h3 h4)⟩
theorem deedC_cong {d : DD} {σ σ' : St} {o : Nat} (h1 : σ'.1 = σ.1) (h2 : σ'.2.2.1 50 o = σ.2.2.1 50 o) (h3 : σ'.2.2.1 51 o = σ.2.2.1 51 o) (h : DeedC d σ o) : DeedC d σ' o := by
  unfold DeedC at *
  rw [h1, h2, h3]
  exact h
theorem absC_fr {α : Ab} {σ σ' : St} (h : FrC σ σ') (hc : AbsC α σ) (hk : CacheC α (σ'.2.2.1 256 0) (σ'.2.2.1 257 0)) : AbsC α σ' := by
  obtain ⟨a, b, c, d⟩ := σ
  obtain ⟨a', b', c', d'⟩ := σ'
  obtain ⟨h1, h2, h3, h4⟩ := h
  cases (show a' = a from h1)
  cases (show b' = b from h2)
  cases (show d' = d from h3)
  have g : ∀ f o, f ≠ 201 → f ≠ 202 → f ≠ 256 → f ≠ 257 → c' f o = c f o := h4
  refine ⟨?_, ?_, hk, ?_, hc.2.2.2.2.1, ?_, ?_, ?_, ?_, ?_, hc.2.2.2.2.2.2.2.2.2.2⟩
  · show NamesP _ _ _ (c' 301 0) (c' 300 0) (c' 302 0)
    rw [g 301 0 (by decide) (by decide) (by decide) (by decide), g 300 0 (by decide) (by decide) (by decide) (by decide), g 302 0 (by decide) (by decide) (by decide) (by decide)]
    exact hc.1
  · show LineC _ _ _ _ (c' 250 0) (c' 251 0) (c' 252 0) _
    rw [g 250 0 (by decide) (by decide) (by decide) (by decide), g 251 0 (by decide) (by decide) (by decide) (by decide), g 252 0 (by decide) (by decide) (by decide) (by decide)]
    exact hc.2.1
  · exact law_cong (σ := (a, b, c, d)) rfl (fun j => g 200 j (by decide) (by decide) (by decide) (by decide)) (fun _ => rfl) hc.2.2.2.1
  · show TapeP _ _ (c' 350 0)
    rw [g 350 0 (by decide) (by decide) (by decide) (by decide)]
    exact hc.2.2.2.2.2.1
  · show ChgC _ _ (c' 0 0) (c' 1 0) (c' 2 0) (c' 3 0) _ _ _
    rw [g 0 0 (by decide) (by decide) (by decide) (by decide), g 1 0 (by decide) (by decide) (by decide) (by decide), g 2 0 (by decide) (by decide) (by decide) (by decide), g 3 0 (by decide) (by decide) (by decide) (by decide)]
    exact hc.2.2.2.2.2.2.1
  · exact deedC_cong (σ := (a, b, c, d)) rfl (g 50 0 (by decide) (by decide) (by decide) (by decide)) (g 51 0 (by decide) (by decide) (by decide) (by decide)) hc.2.2.2.2.2.2.2.1
  · exact ⟨hc.2.2.2.2.2.2.2.2.1.1, fun x e => deedC_cong (σ := (a, b, c, d)) rfl (g 50 1 (by decide) (by decide) (by decide) (by decide)) (g 51 1 (by decide) (by decide) (by decide) (by decide)) (hc.2.2.2.2.2.2.2.2.1.2 x e)⟩
  · show SpellP _ _ _ _ (c' 500 0) _ (c' 501 0)
    rw [g 500 0 (by decide) (by decide) (by decide) (by decide), g 501 0 (by decide) (by decide) (by decide) (by decide)]
    exact hc.2.2.2.2.2.2.2.2.2.1
def FrM (τ τ' : St) : Prop := (∀ f o, ¬ (613 ≤ f ∧ f ≤ 617) → τ'.1 f o = τ.1 f o) ∧ τ'.2.1 = τ.2.1 ∧ (∀ f o, f ≠ 618 → f ≠ 619 → τ'.2.2.1 f o = τ.2.2.1 f o) ∧ τ'.2.2.2 = τ.2.2.2
theorem FrM.rf (τ : St) : FrM τ τ := ⟨fun _ _ _ => rfl, rfl, fun _ _ _ _ => rfl, rfl⟩
theorem FrM.tr {a b c : St} (h : FrM a b) (g : FrM b c) : FrM a c := ⟨fun f o h1 => (g.1 f o h1).trans (h.1 f o h1), g.2.1.trans h.2.1, fun f o h1 h2 => (g.2.2.1 f o h1 h2).trans (h.2.2.1 f o h1 h2), g.2.2.2.trans h.2.2.2⟩
theorem absM_fr {α : Ab} {τ τ' : St} (h : FrM τ τ') (hm : AbsM α τ) : AbsM α τ' := by
  obtain ⟨a, b, c, d⟩ := τ
  obtain ⟨a', b', c', d'⟩ := τ'
  obtain ⟨h1, h2, h3, h4⟩ := h
  cases (show b' = b from h2)
  cases (show d' = d from h4)
  have g : ∀ f o, f ≠ 618 → f ≠ 619 → c' f o = c f o := h3
  have i : ∀ f o, ¬ (613 ≤ f ∧ f ≤ 617) → a' f o = a f o := h1
  refine ⟨?_, ?_, ?_, ?_, ?_, ?_, ?_, ?_, ?_⟩
  · show NamesP _ _ (a' 606 0) (c' 607 0) (c' 608 0) (c' 600 0)
    rw [i 606 0 (by decide), g 607 0 (by decide) (by decide), g 608 0 (by decide) (by decide), g 600 0 (by decide) (by decide)]
    exact hm.1
  · show LineM _ _ _ _ (c' 600 0)
    rw [g 600 0 (by decide) (by decide)]
    exact hm.2.1
  · exact lawM_cong (g 611 0 (by decide) (by decide)) (i 612 0 (by decide)) hm.2.2.1
  · show TapeP _ (a' 610 0) (c' 609 0)
    rw [i 610 0 (by decide), g 609 0 (by decide) (by decide)]
    exact hm.2.2.2.1
  · show ChgM _ _ (c' 601 0) (c' 602 0) (c' 603 0) (a' 604 0) (a' 605 0)
    rw [g 601 0 (by decide) (by decide), g 602 0 (by decide) (by decide), g 603 0 (by decide) (by decide), i 604 0 (by decide), i 605 0 (by decide)]
    exact hm.2.2.2.2.1
  · have hd := hm.2.2.2.2.2.1
    unfold DeedM at *
    show a' 623 0 = _ ∧ a' 628 0 = _ ∧ a' 629 0 = _ ∧ a' 630 0 = _ ∧ (_ → a' 625 0 = _ ∧ a' 624 0 = _ ∧ ∀ i, i < 6 → c' 626 0 i = _ ∧ c' 627 0 i = _)
    rw [i 623 0 (by decide), i 628 0 (by decide), i 629 0 (by decide), i 630 0 (by decide), i 625 0 (by decide), i 624 0 (by decide), g 626 0 (by decide) (by decide), g 627 0 (by decide) (by decide)]
    exact hd
  · show a' 631 0 = _ ∧ ∀ d, _ → ImgM d (c' 632 0)
    rw [i 631 0 (by decide), g 632 0 (by decide) (by decide)]
    exact hm.2.2.2.2.2.2.1
  · show SpellP _ _ _ (a' 633 0) (c' 634 0) (a' 636 0) (c' 635 0)
    rw [i 633 0 (by decide), i 636 0 (by decide), g 634 0 (by decide) (by decide), g 635 0 (by decide) (by decide)]
    exact hm.2.2.2.2.2.2.2.1
  · show ShelfM _ (c' 639 0) (c' 640 0) _
    rw [g 639 0 (by decide) (by decide), g 640 0 (by decide) (by decide)]
    exact hm.2.2.2.2.2.2.2.2
/-! small tools -/
theorem chk_in {β : Type} {x : Option β} {j n : Nat} (h : j < n) (hn : n ≤ 2000000000) : chk (nI j < 0 ∨ n ≤ (nI j).toNatClampNeg) x = x := chk_e (in_nI h hn)
theorem chk_i2 {β : Type} {x : Option β} {j n : Nat} (h : j < n) (hn : n ≤ 2000000000) : chk (nI j < 0 ∨ n ≤ j) x = x := chk_e (fun z => z.elim (nI_n0 (by omega)) (fun y => absurd h (by omega)))
theorem ix12 (a b : Nat) : nI a * (12 : Int32) + nI b = nI (12 * a + b) := by
  have h : nI a * (12 : Int32) = nI (a * 12) := (Int32.ofNat_mul a 12).symm
  rw [h, nI_add, Nat.mul_comm]
theorem ix12b (a b : Nat) : nI a * (12 : Int32) + nI b = nI (a * 12 + b) := by rw [ix12, Nat.mul_comm]
theorem nI_p1 (a : Nat) : nI a + (1 : Int32) = nI (a + 1) := nI_add a 1
theorem oLi {k : Nat} {α : Ab} (h : OkA k α) : OkL (aAL α) (aLG α) (aCL α) (aNO α) := h.2.1
theorem cLaw {α : Ab} {σ : St} (h : AbsC α σ) : LawC (aLW α) σ := h.2.2.2.1
theorem cRef {α : Ab} {σ : St} (h : AbsC α σ) : RefC σ.2.2.2.2 := h.2.2.2.2.1
theorem wt_le (α : Ab) (s h k : Nat) : wt α s h k ≤ 99 := by
  unfold wt
  by_cases h1 : wv α s h k < 0
  · rw [if_pos h1]; omega
  · rw [if_neg h1]
    by_cases h2 : 99 < wv α s h k
    · rw [if_pos h2]; exact Nat.le_refl _
    · rw [if_neg h2]
      obtain ⟨j, hj, e⟩ := nI_of h1
      rw [e] at h2 ⊢
      rw [nI_clamp hj]
      have h3 : ¬ nI 99 < nI j := h2
      rw [nI_ltI (by omega) hj] at h3
      omega
theorem wt_clamp {β : Type} (α : Ab) (s h k : Nat) (F : Int32 → β) : (if 0 ≤ wv α s h k then (if wv α s h k ≤ 99 then F (wv α s h k) else F 99) else F 0) = F (nI (wt α s h k)) := by
  unfold wt
  by_cases h1 : 0 ≤ wv α s h k
  · rw [if_pos h1, if_neg (Int32.not_lt.mpr h1)]
    by_cases h2 : wv α s h k ≤ 99
    · rw [if_pos h2, if_neg (Int32.not_lt.mpr h2)]
      obtain ⟨j, hj, e⟩ := nI_of (Int32.not_lt.mpr h1)
      rw [e, nI_clamp hj]
    · rw [if_neg h2, if_pos (Int32.not_le.mp h2)]
      rfl
  · rw [if_neg h1, if_pos (Int32.not_le.mp h1)]
    rfl
theorem wsum_le (α : Ab) (s k : Nat) : ∀ n, wsum α s k n ≤ 99 * n
  | 0 => Nat.le_refl _
  | n + 1 => by
    have h1 := wsum_le α s k n
    have h2 := wt_le α s n k
    rw [wsum]
    omega
theorem wsum_mono (α : Ab) (s k : Nat) {m : Nat} : ∀ {n}, m ≤ n → wsum α s k m ≤ wsum α s k n := by
  intro n h
  induction n with
  | zero => rw [show m = 0 by omega]; exact Nat.le_refl _
  | succ n ih =>
    rw [wsum]
    by_cases e : m = n + 1
    · subst e; rw [wsum]; exact Nat.le_refl _
    · have := ih (by omega); omega
/-- PARTS -/
def ptN (α : Ab) (s h k : Nat) : Nat := if wsum α s k 12 = 0 then (if s = h then 100 else 0) else 100 * wt α s h k / wsum α s k 12
theorem wt_wsum (α : Ab) (s k : Nat) {h : Nat} (hh : h < 12) : wt α s h k ≤ wsum α s k 12 := by
  have h1 : wsum α s k (h + 1) ≤ wsum α s k 12 := wsum_mono α s k (by omega)
  rw [wsum] at h1
  omega
theorem pt_le (α : Ab) (s k : Nat) {h : Nat} (hh : h < 12) : ptN α s h k ≤ 100 := by
  unfold ptN
  by_cases h0 : wsum α s k 12 = 0
  · rw [if_pos h0]; split <;> omega
  · rw [if_neg h0]
    have h1 := wt_wsum α s k hh
    exact Nat.div_le_of_le_mul (by rw [Nat.mul_comm]; exact Nat.mul_le_mul_right 100 h1)
/-! the class works WEIGHTS out -/
theorem wv_none {α : Ab} {s h k : Nat} (e : aLW α = none) : wv α s h k = nI (if s = h then 9 else 0) + nI (aAL α s h) * nI (aNO α) - 2 * nI k := by unfold wv; rw [e]
theorem wv_some {α : Ab} {s h k : Nat} {f : LF} (e : aLW α = some f) : wv α s h k = f (nI (aAL α s h)) (nI (aNO α)) (nI (if s = h then 1 else 0)) (nI s) (nI h) (nI k) := by unfold wv; rw [e]
theorem lawC_none {α : Ab} {σ : St} (h : AbsC α σ) (e : aLW α = none) : σ.2.2.2.2 254 = 0 := by
  have h1 := cLaw h
  rw [e] at h1
  exact h1
theorem lawC_some {α : Ab} {σ : St} {f : LF} (h : AbsC α σ) (e : aLW α = some f) : ∃ j, σ.2.2.2.2 254 = j + 1 ∧ (j = 0 ∨ (j = 1 ∧ σ.2.2.2.2 0 = 2)) ∧ LawSem (σ.2.2.1 200 j) (σ.1 203 j) f := by
  have h1 := cLaw h
  rw [e] at h1
  obtain ⟨j, h2, h3⟩ := h1
  refine ⟨j, h2, ?_, h3⟩
  rcases (cRef h).1 with ⟨_, z, _⟩ | ⟨z0, (⟨z, _⟩ | ⟨z, _⟩), _⟩
  · exact absurd (z.symm.trans h2) (by omega)
  · exact Or.inl (by omega)
  · exact Or.inr ⟨by omega, z0⟩
theorem derefL_e {β : Type} {σ : St} {r j : Nat} {k : Nat → Option β} (h : r = j + 1) (h2 : j = 0 ∨ (j = 1 ∧ σ.2.2.2.2 0 = 2)) : derefL σ r k = k j := by
  subst h
  exact if_pos h2
theorem workOut_loop {α : Ab} {k1 : Nat} (ho : OkA k1 α) {s k : Nat} (hs : s < 12) (hk : k < 10) : ∀ m h f σ, h + m = 12 → m < f → AbsC α σ → σ.2.2.1 257 0 (12 * k + s) = -1 → (∀ x, x < h → σ.2.2.1 256 0 ((12 * k + s) * 12 + x) = nI (wt α s x k)) → ∃ σ', f_X5_workOut_b23 f σ (nI s) (nI k) (nI (12 * k + s)) (nI (wsum α s k h)) (nI h) = some σ' ∧ FrC σ σ' ∧ AbsC α σ' ∧ σ'.2.2.1 257 0 (12 * k + s) = nI (wsum α s k 12) ∧ ∀ x, x < 12 → σ'.2.2.1 256 0 ((12 * k + s) * 12 + x) = nI (wt α s x k) := by
  intro m
  induction m with
  | zero =>
    intro h f σ hh hf hc ht hw
    obtain ⟨g, rfl⟩ : ∃ g, f = g + 1 := ⟨f - 1, by omega⟩
    have h12 : h = 12 := by omega
    subst h12
    rw [f_X5_workOut_b23, if_pos (show (12 : Int32) ≤ nI 12 from Int32.le_refl _), chk_in (show 12 * k + s < 120 by omega) (by omega), bnd_e, nI_clamp (by omega)]
    have hF : FrC σ (sA σ 257 0 (upd (σ.2.2.1 257 0) (12 * k + s) (nI (wsum α s k 12)))) := ⟨rfl, rfl, rfl, fun f o _ _ _ h4 => if_neg (fun z => h4 z.1)⟩
    refine ⟨_, rfl, hF, absC_fr hF hc ?_, ?_, hw⟩
    · show CacheC α (σ.2.2.1 256 0) (upd (σ.2.2.1 257 0) (12 * k + s) (nI (wsum α s k 12)))
      intro k2 s2 hk2 hs2
      by_cases e : 12 * k2 + s2 = 12 * k + s
      · have e1 : k2 = k := by omega
        have e2 : s2 = s := by omega
        subst e1; subst e2
        exact Or.inr ⟨pk_us, hw⟩
      · rw [pk_un e]
        exact hc.2.2.1 k2 s2 hk2 hs2
    · show upd (σ.2.2.1 257 0) (12 * k + s) (nI (wsum α s k 12)) (12 * k + s) = _
      exact pk_us
  | succ m ih =>
    intro h f σ hh hf hc ht hw
    obtain ⟨g, rfl⟩ : ∃ g, f = g + 1 := ⟨f - 1, by omega⟩
    have hh12 : h < 12 := by omega
    have step : ∀ σ1, FrC σ σ1 → AbsC α σ1 → σ1.2.2.1 257 0 (12 * k + s) = -1 → (∀ x, x < h → σ1.2.2.1 256 0 ((12 * k + s) * 12 + x) = nI (wt α s x k)) → ∃ σ', f_X5_workOut_b103 (f_X5_workOut_b23 g) σ1 (nI s) (nI k) (nI (12 * k + s)) (nI (wsum α s k h)) (nI h) (wv α s h k) = some σ' ∧ FrC σ σ' ∧ AbsC α σ' ∧ σ'.2.2.1 257 0 (12 * k + s) = nI (wsum α s k 12) ∧ ∀ x, x < 12 → σ'.2.2.1 256 0 ((12 * k + s) * 12 + x) = nI (wt α s x k) := by
      intro σ1 hf1 hc1 ht1 hw1
      unfold f_X5_workOut_b103
      rw [wt_clamp α s h k (fun v => f_X5_workOut_b128 (f_X5_workOut_b23 g) σ1 (nI s) (nI k) (nI (12 * k + s)) (nI (wsum α s k h)) (nI h) v)]
      unfold f_X5_workOut_b128
      rw [ix12b, chk_in (show (12 * k + s) * 12 + h < 1440 by omega) (by omega), nI_clamp (by omega)]
      simp only [bnd_e, nI_p1]
      rw [nI_add]
      have hF : FrC σ1 (sA σ1 256 0 (upd (σ1.2.2.1 256 0) ((12 * k + s) * 12 + h) (nI (wt α s h k)))) := ⟨rfl, rfl, rfl, fun f o _ _ h3 _ => if_neg (fun z => h3 z.1)⟩
      have hc2 : AbsC α (sA σ1 256 0 (upd (σ1.2.2.1 256 0) ((12 * k + s) * 12 + h) (nI (wt α s h k)))) := by
        refine absC_fr hF hc1 ?_
        show CacheC α (upd (σ1.2.2.1 256 0) ((12 * k + s) * 12 + h) (nI (wt α s h k))) (σ1.2.2.1 257 0)
        intro k2 s2 hk2 hs2
        rcases hc1.2.2.1 k2 s2 hk2 hs2 with z | ⟨z1, z2⟩
        · exact Or.inl z
        · refine Or.inr ⟨z1, fun x hx => ?_⟩
          by_cases e : 12 * k2 + s2 = 12 * k + s
          · rw [e, ht1] at z1
            have := wsum_le α s2 k2 12
            exact absurd z1.symm (nI_nm1 (by omega))
          · rw [pk_un (by omega)]
            exact z2 x hx
      obtain ⟨σ', e1, e2, e3, e4, e5⟩ := ih (h + 1) g _ (by omega) (by omega) hc2 ht1 (by
        intro x hx
        show upd (σ1.2.2.1 256 0) ((12 * k + s) * 12 + h) (nI (wt α s h k)) ((12 * k + s) * 12 + x) = _
        by_cases e : x = h
        · subst e; exact pk_us
        · rw [pk_un (by omega)]; exact hw1 x (by omega))
      rw [wsum] at e1
      exact ⟨σ', e1, hf1.tr (hF.tr e2), e3, e4, e5⟩
    rw [f_X5_workOut_b23, if_neg (show ¬ (12 : Int32) ≤ nI h from nI_ge (b := 12) hh12 (by omega)), ix12, chk_in (show 12 * s + h < 144 by omega) (by omega), bnd_e, nI_clamp (by omega), hc.2.1.1 s h hs hh12]
    have e0 : (if nI s = nI h then (f_X5_workOut_b55 (f_X5_workOut_b23 g) σ (nI s) (nI k) (nI (12 * k + s)) (nI (wsum α s k h)) (nI h) (nI (aAL α s h)) (1 : Int32)) else (f_X5_workOut_b55 (f_X5_workOut_b23 g) σ (nI s) (nI k) (nI (12 * k + s)) (nI (wsum α s k h)) (nI h) (nI (aAL α s h)) (0 : Int32))) = f_X5_workOut_b55 (f_X5_workOut_b23 g) σ (nI s) (nI k) (nI (12 * k + s)) (nI (wsum α s k h)) (nI h) (nI (aAL α s h)) (nI (if s = h then 1 else 0)) := by
      by_cases e : s = h
      · rw [if_pos (congrArg nI e), if_pos e]; rfl
      · rw [if_neg (fun z => e ((nI_eq (by omega) (by omega)).mp z)), if_neg e]; rfl
    rw [e0]
    unfold f_X5_workOut_b55
    cases hL : aLW α with
    | none =>
      rw [if_pos (lawC_none hc hL), hc.2.1.2.2]
      have e1 : nI (if s = h then 1 else 0) * (9 : Int32) + nI (aAL α s h) * nI (aNO α) - (2 : Int32) * nI k = wv α s h k := by
        rw [wv_none hL]
        by_cases e : s = h
        · rw [if_pos e, if_pos e]; rfl
        · rw [if_neg e, if_neg e]; rfl
      rw [e1]
      exact step σ (FrC.rf σ) hc ht hw
    | some F =>
      obtain ⟨j, h1, h2, h3⟩ := lawC_some hc hL
      rw [if_neg (show ¬ σ.2.2.2.2 254 = 0 by rw [h1]; omega), derefL_e h1 h2, hc.2.1.2.2]
      obtain ⟨v, e1, e2, A, B, e3⟩ := h3 σ j (nI (aAL α s h)) (nI (aNO α)) (nI (if s = h then 1 else 0)) (nI s) (nI h) (nI k) rfl rfl
      rw [e1]
      show ∃ σ', f_X5_workOut_b103 (f_X5_workOut_b23 g) v.2 (nI s) (nI k) (nI (12 * k + s)) (nI (wsum α s k h)) (nI h) v.1 = some σ' ∧ _
      rw [e2, ← wv_some hL, e3]
      have hF : FrC σ (sA (sA σ 201 j A) 202 j B) := ⟨rfl, rfl, rfl, fun f o q1 q2 _ _ => (if_neg (fun z => q2 z.1)).trans (if_neg (fun z => q1 z.1))⟩
      exact step _ hF (absC_fr hF hc hc.2.2.1) ht hw
theorem workOut_C {α : Ab} {k1 : Nat} {σ : St} (ho : OkA k1 α) (hc : AbsC α σ) {s k : Nat} (hs : s < 12) (hk : k < 10) : ∃ σ', f_X5_workOut σ (nI s) (nI k) = some σ' ∧ FrC σ σ' ∧ AbsC α σ' ∧ σ'.2.2.1 257 0 (12 * k + s) = nI (wsum α s k 12) ∧ ∀ x, x < 12 → σ'.2.2.1 256 0 ((12 * k + s) * 12 + x) = nI (wt α s x k) := by
  unfold f_X5_workOut
  rw [ix12, bnd_e, chk_in (show 12 * k + s < 120 by omega) (by omega), nI_clamp (by omega)]
  rcases hc.2.2.1 k s hk hs with z | ⟨z1, z2⟩
  · rw [if_pos (show σ.2.2.1 257 0 (12 * k + s) < 0 by rw [z]; decide)]
    exact workOut_loop ho hs hk 12 0 256 σ (by omega) (by omega) hc z (fun x hx => absurd hx (Nat.not_lt_zero x))
  · have := wsum_le α s k 12
    rw [if_neg (show ¬ σ.2.2.1 257 0 (12 * k + s) < 0 by rw [z1]; exact nI_n0 (by omega))]
    exact ⟨σ, rfl, FrC.rf σ, hc, z1, z2⟩
theorem total_C {α : Ab} {k1 : Nat} {σ : St} (ho : OkA k1 α) (hc : AbsC α σ) {s k : Nat} (hs : s < 12) (hk : k < 10) : ∃ σ', f_X5_total σ (nI s) (nI k) = some (nI (wsum α s k 12), σ') ∧ FrC σ σ' ∧ AbsC α σ' := by
  obtain ⟨σ', e1, e2, e3, e4, _⟩ := workOut_C ho hc hs hk
  refine ⟨σ', ?_, e2, e3⟩
  unfold f_X5_total
  rw [e1, bnd1_e, ix12, chk_in (show 12 * k + s < 120 by omega) (by omega), nI_clamp (by omega), e4]
theorem weight_C {α : Ab} {k1 : Nat} {σ : St} (ho : OkA k1 α) (hc : AbsC α σ) {s h k : Nat} (hs : s < 12) (hh : h < 12) (hk : k < 10) : ∃ σ', f_X5_weight σ (nI s) (nI h) (nI k) = some (nI (wt α s h k), σ') ∧ FrC σ σ' ∧ AbsC α σ' := by
  obtain ⟨σ', e1, e2, e3, _, e4⟩ := workOut_C ho hc hs hk
  refine ⟨σ', ?_, e2, e3⟩
  unfold f_X5_weight
  rw [e1, bnd1_e, ix12, ix12b, chk_in (show (12 * k + s) * 12 + h < 1440 by omega) (by omega), nI_clamp (by omega), e4 h hh]
theorem nI_z {n : Nat} (h : n < 2 ^ 31) : nI n = 0 ↔ n = 0 := nI_eq (b := 0) h (by omega)
theorem letterT {h : Nat} (hh : h < 12) : f_X11_isLetter (nI h).toInt64 = some 1 := by
  rw [e_X11_isLetter, tf_t]
  rw [nI_l (by omega)]
  exact ⟨(pk_lLE (a := 0) (by omega) (by omega)).mpr (by omega), (pk_lLE (b := 11) (by omega) (by omega)).mpr (by omega)⟩
theorem parts_C {α : Ab} {k1 : Nat} {σ : St} (ho : OkA k1 α) (hc : AbsC α σ) {s h k : Nat} (hs : s < 12) (hh : h < 12) (hk : k < 10) : ∃ σ', f_X5_parts σ (nI s) (nI h) (nI k) = some (nI (ptN α s h k), σ') ∧ FrC σ σ' ∧ AbsC α σ' := by
  obtain ⟨σ', e1, e2, e3, e4, e5⟩ := workOut_C ho hc hs hk
  refine ⟨σ', ?_, e2, e3⟩
  unfold f_X5_parts
  rw [letterT hh, bnd1_e, if_neg one_n0, e1, bnd1_e, ix12, bnd_e, chk_in (show 12 * k + s < 120 by omega) (by omega), ix12b, chk_in (show (12 * k + s) * 12 + h < 1440 by omega) (by omega), chk_in (show 12 * k + s < 120 by omega) (by omega), nI_clamp (show 12 * k + s < 2 ^ 31 by omega), e4, nI_clamp (show (12 * k + s) * 12 + h < 2 ^ 31 by omega), e5 h hh]
  have hb := wsum_le α s k 12
  have hb2 := wt_le α s h k
  unfold ptN
  by_cases h0 : wsum α s k 12 = 0
  · rw [if_pos ((nI_z (by omega)).mpr h0), if_pos h0]
    by_cases e : s = h
    · rw [if_pos (congrArg nI e), if_pos e]; rfl
    · rw [if_neg (fun z => e ((nI_eq (by omega) (by omega)).mp z)), if_neg e]; rfl
  · have hz : ¬ nI (wsum α s k 12) = 0 := fun z => h0 ((nI_z (by omega)).mp z)
    rw [if_neg hz, if_neg h0, chk_e hz, show (100 : Int32) * nI (wt α s h k) = nI (100 * wt α s h k) from pk_mul 100 _, pk_div (by omega) (by omega) (by omega)]
theorem parts_C0 {σ : St} (x y z : Int32) (h : ¬ (0 ≤ y ∧ y ≤ 11)) : f_X5_parts σ x y z = some (0, σ) := by
  unfold f_X5_parts
  rw [e_X11_isLetter, tf_f (fun q => h ⟨(fa_wide_le 0 y).mp q.1, (fa_wide_le y 11).mp q.2⟩), bnd1_e, if_pos rfl]
