/-! 35 act -/
def uRN (α : Ab) (rn : Nat) (tr : Nat → Nat) : Ab := (α.1, α.2.1, α.2.2.1, α.2.2.2.1, α.2.2.2.2.1, α.2.2.2.2.2.1, ((aBK α), rn, tr), α.2.2.2.2.2.2.2)
def trU (tr : Nat → Nat) (i b : Nat) : Nat → Nat := fun j => if j = i then b else tr j
theorem absC_RN {α : Ab} {rn rn' : Nat} {tr tr' : Nat → Nat} {σ σ' : St} (h : AbsC (uRN α rn tr) σ) (h1 : ∀ f o, f ≠ 503 → σ'.1 f o = σ.1 f o) (h2 : ∀ f o, f ≠ 501 → σ'.2.2.1 f o = σ.2.2.1 f o) (h3 : σ'.2.2.2 = σ.2.2.2) (hR : σ'.1 503 0 = nI rn' ∧ ∀ i, i < rn' → i < 24 → σ'.2.2.1 501 0 i = nI (tr' i)) : AbsC (uRN α rn' tr') σ' := by
  obtain ⟨a, b, c, d⟩ := σ
  obtain ⟨a', b', c', d'⟩ := σ'
  cases (show d' = d from h3)
  have g : ∀ f o, f ≠ 503 → a' f o = a f o := h1
  have i : ∀ f o, f ≠ 501 → c' f o = c f o := h2
  refine ⟨?_, ?_, ?_, law_cong (σ := (a, b, c, d)) rfl (fun j => i 200 j (by decide)) (fun j => g 203 j (by decide)) h.2.2.2.1, h.2.2.2.2.1, ?_, ?_, ?_, ?_, ?_, ?_⟩
  · show NamesP _ _ (a' 303 0) (c' 301 0) (c' 300 0) (c' 302 0)
    rw [g 303 0 (by decide), i 301 0 (by decide), i 300 0 (by decide), i 302 0 (by decide)]
    exact h.1
  · show LineC _ _ _ _ (c' 250 0) (c' 251 0) (c' 252 0) (a' 253 0)
    rw [g 253 0 (by decide), i 250 0 (by decide), i 251 0 (by decide), i 252 0 (by decide)]
    exact h.2.1
  · show CacheC _ (c' 256 0) (c' 257 0)
    rw [i 256 0 (by decide), i 257 0 (by decide)]
    exact cache_cong rfl rfl rfl h.2.2.1
  · show TapeP _ (a' 351 0) (c' 350 0)
    rw [g 351 0 (by decide), i 350 0 (by decide)]
    exact h.2.2.2.2.2.1
  · show ChgC _ _ (c' 0 0) (c' 1 0) (c' 2 0) (c' 3 0) (a' 4 0) (a' 5 0) (a' 6 0)
    rw [g 4 0 (by decide), g 5 0 (by decide), g 6 0 (by decide), i 0 0 (by decide), i 1 0 (by decide), i 2 0 (by decide), i 3 0 (by decide)]
    exact h.2.2.2.2.2.2.1
  · have q := h.2.2.2.2.2.2.2.1
    unfold DeedC at *
    show a' 52 0 = _ ∧ a' 56 0 = _ ∧ a' 53 0 = _ ∧ a' 54 0 = _ ∧ a' 55 0 = _ ∧ (_ → a' 57 0 = _ ∧ ∀ i, i < 6 → c' 50 0 i = _ ∧ (_ → c' 51 0 i = _))
    rw [g 52 0 (by decide), g 53 0 (by decide), g 54 0 (by decide), g 55 0 (by decide), g 56 0 (by decide), g 57 0 (by decide), i 50 0 (by decide), i 51 0 (by decide)]
    exact q
  · refine ⟨(g 561 0 (by decide)).trans h.2.2.2.2.2.2.2.2.1.1, fun x hx => ?_⟩
    have q := h.2.2.2.2.2.2.2.2.1.2 x hx
    unfold DeedC at *
    show a' 52 1 = _ ∧ a' 56 1 = _ ∧ a' 53 1 = _ ∧ a' 54 1 = _ ∧ a' 55 1 = _ ∧ (_ → a' 57 1 = _ ∧ ∀ i, i < 6 → c' 50 1 i = _ ∧ (_ → c' 51 1 i = _))
    rw [g 52 1 (by decide), g 53 1 (by decide), g 54 1 (by decide), g 55 1 (by decide), g 56 1 (by decide), g 57 1 (by decide), i 50 1 (by decide), i 51 1 (by decide)]
    exact q
  · have q := h.2.2.2.2.2.2.2.2.2.1
    refine ⟨(g 502 0 (by decide)).trans q.1, ?_, hR.1, hR.2⟩
    show ∀ j, j < (aBK α).length → c' 500 0 j = _
    rw [i 500 0 (by decide)]
    exact q.2.1
  · intro j hj
    have q := h.2.2.2.2.2.2.2.2.2.2 j hj
    show (_ → a' 401 j = _) ∧ (_ → a' 401 j = _) ∧ (_ → a' 401 j = _ ∧ a' 402 j = _ ∧ a' 403 j = _ ∧ _)
    rw [g 401 j (by decide), g 402 j (by decide), g 403 j (by decide)]
    exact q
theorem absM_RN {α : Ab} {rn rn' : Nat} {tr tr' : Nat → Nat} {τ τ' : St} (h : AbsM (uRN α rn tr) τ) (h1 : ∀ f o, f ≠ 636 → f ≠ 637 → f ≠ 638 → τ'.1 f o = τ.1 f o) (h2 : ∀ f o, f ≠ 635 → τ'.2.2.1 f o = τ.2.2.1 f o) (h3 : τ'.2.2.2 = τ.2.2.2) (hR : τ'.1 636 0 = nI rn' ∧ ∀ i, i < rn' → i < 24 → τ'.2.2.1 635 0 i = nI (tr' i)) : AbsM (uRN α rn' tr') τ' := by
  obtain ⟨a, b, c, d⟩ := τ
  obtain ⟨a', b', c', d'⟩ := τ'
  cases (show d' = d from h3)
  have g : ∀ f o, f ≠ 636 → f ≠ 637 → f ≠ 638 → a' f o = a f o := h1
  have i : ∀ f o, f ≠ 635 → c' f o = c f o := h2
  refine ⟨?_, ?_, lawM_cong (i 611 0 (by decide)) (g 612 0 (by decide) (by decide) (by decide)) h.2.2.1, ?_, ?_, ?_, ?_, ?_, ?_⟩
  · show NamesP _ _ (a' 606 0) (c' 607 0) (c' 608 0) (c' 600 0)
    rw [g 606 0 (by decide) (by decide) (by decide), i 607 0 (by decide), i 608 0 (by decide), i 600 0 (by decide)]
    exact h.1
  · show LineM _ _ _ _ (c' 600 0)
    rw [i 600 0 (by decide)]
    exact h.2.1
  · show TapeP _ (a' 610 0) (c' 609 0)
    rw [g 610 0 (by decide) (by decide) (by decide), i 609 0 (by decide)]
    exact h.2.2.2.1
  · show ChgM _ _ (c' 601 0) (c' 602 0) (c' 603 0) (a' 604 0) (a' 605 0)
    rw [i 601 0 (by decide), i 602 0 (by decide), i 603 0 (by decide), g 604 0 (by decide) (by decide) (by decide), g 605 0 (by decide) (by decide) (by decide)]
    exact h.2.2.2.2.1
  · have q := h.2.2.2.2.2.1
    unfold DeedM at *
    show a' 623 0 = _ ∧ a' 628 0 = _ ∧ a' 629 0 = _ ∧ a' 630 0 = _ ∧ (_ → a' 625 0 = _ ∧ a' 624 0 = _ ∧ ∀ i, i < 6 → c' 626 0 i = _ ∧ c' 627 0 i = _)
    rw [g 623 0 (by decide) (by decide) (by decide), g 628 0 (by decide) (by decide) (by decide), g 629 0 (by decide) (by decide) (by decide), g 630 0 (by decide) (by decide) (by decide), g 625 0 (by decide) (by decide) (by decide), g 624 0 (by decide) (by decide) (by decide), i 626 0 (by decide), i 627 0 (by decide)]
    exact q
  · show a' 631 0 = _ ∧ ∀ d, _ → ImgM d (c' 632 0)
    rw [g 631 0 (by decide) (by decide) (by decide), i 632 0 (by decide)]
    exact h.2.2.2.2.2.2.1
  · have q := h.2.2.2.2.2.2.2.1
    refine ⟨(g 633 0 (by decide) (by decide) (by decide)).trans q.1, ?_, hR.1, hR.2⟩
    show ∀ j, j < (aBK α).length → c' 634 0 j = _
    rw [i 634 0 (by decide)]
    exact q.2.1
  · show ShelfM _ (c' 639 0) (c' 640 0) _
    rw [i 639 0 (by decide), i 640 0 (by decide)]
    exact h.2.2.2.2.2.2.2.2
/-- a body begins: the class -/
def bgC (σ : St) (b : Nat) : St := sI (if (24 : Int32) ≤ σ.1 503 0 then σ else sA σ 501 0 (upd (σ.2.2.1 501 0) (σ.1 503 0).toNatClampNeg (nI b))) 503 0 (σ.1 503 0 + 1)
theorem bg_abs {α : Ab} {rn : Nat} {tr : Nat → Nat} {σ : St} (h : AbsC (uRN α rn tr) σ) (hr : rn < 100) (b : Nat) : AbsC (uRN α (rn + 1) (trU tr rn b)) (bgC σ b) := by
  have q : σ.1 503 0 = nI rn ∧ ∀ i, i < rn → i < 24 → σ.2.2.1 501 0 i = nI (tr i) := ⟨(cSp h).2.2.1, (cSp h).2.2.2⟩
  have e : bgC σ b = sI (if (24 : Int32) ≤ σ.1 503 0 then σ else sA σ 501 0 (upd (σ.2.2.1 501 0) (σ.1 503 0).toNatClampNeg (nI b))) 503 0 (σ.1 503 0 + 1) := rfl
  by_cases h24 : 24 ≤ rn
  · rw [if_pos (by rw [q.1]; exact nI_le (a := 24) h24 (by omega))] at e
    rw [e]
    refine absC_RN h (fun f o hf => if_neg (fun z => hf z.1)) (fun _ _ _ => rfl) rfl ⟨?_, fun i hi h2 => ?_⟩
    · show σ.1 503 0 + 1 = _
      rw [q.1, nI_p1]
    · show σ.2.2.1 501 0 i = nI (if i = rn then b else tr i)
      rw [if_neg (by omega)]
      exact q.2 i (by omega) h2
  · rw [if_neg (by rw [q.1]; exact nI_ge (b := 24) (by omega) (by omega))] at e
    rw [e]
    refine absC_RN h (fun f o hf => if_neg (fun z => hf z.1)) (fun f o hf => if_neg (fun z => hf z.1)) rfl ⟨?_, fun i hi h2 => ?_⟩
    · show σ.1 503 0 + 1 = _
      rw [q.1, nI_p1]
    · show upd (σ.2.2.1 501 0) (σ.1 503 0).toNatClampNeg (nI b) i = nI (if i = rn then b else tr i)
      rw [q.1, nI_clamp (by omega)]
      by_cases e : i = rn
      · subst e; rw [pk_us, if_pos rfl]
      · rw [pk_un e, if_neg e]; exact q.2 i (by omega) h2
theorem begins_M {α : Ab} {rn : Nat} {tr : Nat → Nat} {τ : St} (h : AbsM (uRN α rn tr) τ) (hr : rn < 100) (b : Nat) : ∃ τ1, f_X12_begins τ (nI b) = some τ1 ∧ AbsM (uRN α (rn + 1) (trU tr rn b)) τ1 ∧ τ1.1 637 0 = τ.1 637 0 ∧ τ1.1 638 0 = τ.1 638 0 := by
  have q : τ.1 636 0 = nI rn ∧ ∀ i, i < rn → i < 24 → τ.2.2.1 635 0 i = nI (tr i) := ⟨(mSp h).2.2.1, (mSp h).2.2.2⟩
  unfold f_X12_begins f_X12_begins_b19
  rw [q.1]
  by_cases h24 : 24 ≤ rn
  · rw [if_pos (show (24 : Int32) ≤ nI rn from nI_le (a := 24) h24 (by omega)), nI_p1]
    refine ⟨_, rfl, absM_RN h (fun f o hf _ _ => if_neg (fun z => hf z.1)) (fun _ _ _ => rfl) rfl ⟨rfl, fun i hi h2 => ?_⟩, rfl, rfl⟩
    show τ.2.2.1 635 0 i = nI (if i = rn then b else tr i)
    rw [if_neg (by omega)]
    exact q.2 i (by omega) h2
  · rw [if_neg (show ¬ (24 : Int32) ≤ nI rn from nI_ge (b := 24) (by omega) (by omega)), chk_in (show rn < 24 by omega) (by omega), nI_clamp (by omega), bnd_e]
    refine ⟨_, rfl, absM_RN h (fun f o hf _ _ => if_neg (fun z => hf z.1)) (fun f o hf => if_neg (fun z => hf z.1)) rfl ⟨?_, fun i hi h2 => ?_⟩, rfl, rfl⟩
    · show τ.1 636 0 + 1 = _
      rw [q.1, nI_p1]
    · show upd (τ.2.2.1 635 0) rn (nI b) i = nI (if i = rn then b else tr i)
      by_cases e : i = rn
      · subst e; rw [pk_us, if_pos rfl]
      · rw [pk_un e, if_neg e]; exact q.2 i (by omega) h2
/-! which body: the class's tables -/
def ownN (j : Nat) : Nat := ([1, 10, 11, 2, 20, 0, 0, 0, 0, 30, 0, 0, 0, 41, 40, 0, 0, 0, 50, 0, 0, 0, 0, 60, 70, 0, 0, 0, 0, 80, 0, 81] : List Nat).getD j 0
theorem own_e : ∀ j, j < 32 → ownA j = nI (ownN j) := by decide +kernel
theorem abv_e : ∀ k, k < 8 → aboveA k = nI (abv k) := by decide +kernel
theorem own_b : ∀ j, j < 32 → ownN j < 100 := by decide
def fnd (act : Nat) : Nat → Nat → Nat
  | 0, k => k
  | m + 1, k => if ownN (4 * k + act) = 0 then fnd act m (abv k) else k
theorem fnd_lt (act : Nat) : ∀ m k, k < 8 → fnd act m k < 8
  | 0, _, h => h
  | m + 1, k, h => by
    rw [fnd]
    split
    · exact fnd_lt act m _ (abv_lt k h)
    · exact h
theorem ix4 (a b : Nat) : nI a * (4 : Int32) + nI b = nI (4 * a + b) := by
  have h : nI a * (4 : Int32) = nI (a * 4) := (Int32.ofNat_mul a 4).symm
  rw [h, nI_add, Nat.mul_comm]
theorem climb {rc : St → Int32 → Int32 → Int32 → Int32 → Int32 → Option (Int32 × St)} {σ : St} {x1 x4 x5 : Int32} {act : Nat} (ha : act < 4) : ∀ m k i f, i + m = 8 → m < f → k < 8 → f_X10_perform_b15 rc f σ x1 (nI act) x4 x5 (nI k) (nI i) = f_X10_perform_b49 rc σ x1 (nI act) x4 x5 (nI (fnd act m k)) := by
  intro m
  induction m with
  | zero =>
    intro k i f hi hf hk
    obtain ⟨f, rfl⟩ : ∃ x, f = x + 1 := ⟨f - 1, by omega⟩
    have e : i = 8 := by omega
    subst e
    rw [f_X10_perform_b15, if_pos (show (8 : Int32) ≤ nI 8 from Int32.le_refl _)]
    rfl
  | succ m ih =>
    intro k i f hi hf hk
    obtain ⟨f, rfl⟩ : ∃ x, f = x + 1 := ⟨f - 1, by omega⟩
    have hb := own_b (4 * k + act) (by omega)
    rw [f_X10_perform_b15, if_neg (show ¬ (8 : Int32) ≤ nI i from nI_ge (b := 8) (by omega) (by omega)), ix4, chk_in (show 4 * k + act < 32 by omega) (by omega), nI_clamp (by omega), own_e _ (by omega), chk_in hk (by omega), nI_clamp (by omega), abv_e k hk, fnd]
    simp only [bnd_e, nI_p1]
    by_cases h : ownN (4 * k + act) = 0
    · rw [if_pos ((nI_z (by omega)).mpr h), if_pos h]
      exact ih (abv k) (i + 1) f (by omega) (by omega) (abv_lt k hk)
    · rw [if_neg (fun z => h ((nI_z (by omega)).mp z)), if_neg h]
/-- the body, and the KIND above it -/
def bdy (act k : Nat) : Nat := ownN (4 * fnd act 8 k + act)
def upk (act k : Nat) : Nat := abv (fnd act 8 k)
theorem perform_C {α : Ab} {rn : Nat} {tr : Nat → Nat} {σ : St} (h : AbsC (uRN α rn tr) σ) (hr : rn < 100) {g k act d n : Nat} {x : Int32} (hk : k < 8) (ha : act < 4) (hd : d ≤ 40) : (spG (g + 1)).1 σ (nI n) (nI act) (nI k) x (nI d) = bnd2 ((spG g).2 (bgC σ (bdy act k)) (nI (bdy act k)) (nI n) (nI (upk act k)) x (nI (d + 1))) (fun r s => some (r, s)) := by
  have q : σ.1 503 0 = nI rn := (cSp h).2.2.1
  have hf := fnd_lt act 8 k hk
  show f_X10_perform1 (spG g).2 σ (nI n) (nI act) (nI k) x (nI d) = _
  unfold f_X10_perform1
  have hc : f_X10_perform_b15 (spG g).2 256 σ (nI n) (nI act) x (nI d) (nI k) (0 : Int32) = _ := climb ha 8 k 0 256 (by omega) (by omega) hk
  rw [if_pos (show nI d ≤ (40 : Int32) from nI_le (b := 40) hd (by omega)), hc]
  unfold f_X10_perform_b49
  rw [ix4, chk_in (show 4 * fnd act 8 k + act < 32 by omega) (by omega), nI_clamp (by omega), own_e _ (by omega), bnd_e]
  unfold f_X10_perform_b81
  simp only [chk_in hf (show 8 ≤ 2000000000 by omega), abv_e _ hf, nI_p1]
  simp only [nI_clamp (show fnd act 8 k < 2 ^ 31 by omega), abv_e _ hf, nI_p1]
  unfold bgC bdy upk
  by_cases h24 : (24 : Int32) ≤ σ.1 503 0
  · rw [if_pos h24, if_pos h24]
  · have h24' : rn < 24 := by
      rw [q] at h24
      have : ¬ nI 24 ≤ nI rn := h24
      rw [nI_leI (by omega) (by omega)] at this
      omega
    have c24 : ¬ (σ.1 503 0 < 0 ∨ 24 ≤ (σ.1 503 0).toNatClampNeg) := by rw [q]; exact in_nI h24' (by omega)
    rw [if_neg h24, if_neg h24, chk_e c24, bnd_e]
    rfl
/-! class and model act -/
def BT (α : Ab) (o n c : Nat) (o1 o2 : Option (Int32 × St)) : Prop := ∃ r σ' τ' rn tr, o1 = some (r, σ') ∧ o2 = some (r, τ') ∧ AbsC (uRN α rn tr) σ' ∧ AbsM (uRN α rn tr) τ' ∧ τ'.1 637 0 = nI o ∧ τ'.1 638 0 = nI n ∧ rn ≤ c
theorem bt_ret {α : Ab} {o n c rn : Nat} {tr : Nat → Nat} {r : Int32} {σ τ : St} (h1 : AbsC (uRN α rn tr) σ) (h2 : AbsM (uRN α rn tr) τ) (h3 : τ.1 637 0 = nI o) (h4 : τ.1 638 0 = nI n) (h5 : rn ≤ c) : BT α o n c (some (r, σ)) (some (r, τ)) := ⟨r, σ, τ, rn, tr, rfl, rfl, h1, h2, h3, h4, h5⟩
theorem bt_bnd {α : Ab} {o n c c2 : Nat} {o1 o2 : Option (Int32 × St)} {k1 k2 : Int32 → St → Option (Int32 × St)} (h : BT α o n c o1 o2) (hk : ∀ r σ τ rn tr, AbsC (uRN α rn tr) σ → AbsM (uRN α rn tr) τ → τ.1 637 0 = nI o → τ.1 638 0 = nI n → rn ≤ c → BT α o n c2 (k1 r σ) (k2 r τ)) : BT α o n c2 (bnd2 o1 k1) (bnd2 o2 k2) := by
  obtain ⟨r, σ', τ', rn, tr, h1, h2, h3, h4, h5, h6, h7⟩ := h
  rw [h1, h2, bnd2_e, bnd2_e]
  exact hk r σ' τ' rn tr h3 h4 h5 h6 h7
theorem bt_some {α : Ab} {o n c : Nat} {o1 o2 : Option (Int32 × St)} (h : BT α o n c o1 o2) : BT α o n c (bnd2 o1 (fun r s => some (r, s))) o2 := by
  obtain ⟨r, σ', τ', rn, tr, h1, h2, h3⟩ := h
  rw [h1, bnd2_e]
  exact ⟨r, σ', τ', rn, tr, rfl, h2, h3⟩
theorem bt_somR {α : Ab} {o n c : Nat} {o1 o2 : Option (Int32 × St)} (h : BT α o n c o1 o2) : BT α o n c o1 (bnd2 o2 (fun r s => some (r, s))) := by
  obtain ⟨r, σ', τ', rn, tr, h1, h2, h3⟩ := h
  rw [h2, bnd2_e]
  exact ⟨r, σ', τ', rn, tr, h1, rfl, h3⟩
theorem bt_beg {α : Ab} {o n c rn : Nat} {tr : Nat → Nat} {τ : St} {b : Nat} {K1 : Option (Int32 × St)} {K2 : St → Option (Int32 × St)} (hm : AbsM (uRN α rn tr) τ) (h3 : τ.1 637 0 = nI o) (h4 : τ.1 638 0 = nI n) (hr : rn < 100) (hk : ∀ τ1, AbsM (uRN α (rn + 1) (trU tr rn b)) τ1 → τ1.1 637 0 = nI o → τ1.1 638 0 = nI n → BT α o n c K1 (K2 τ1)) : BT α o n c K1 (bnd1 (f_X12_begins τ (nI b)) K2) := by
  obtain ⟨τ1, e1, e2, e3, e4⟩ := begins_M hm hr b
  rw [e1, bnd1_e]
  exact hk τ1 e2 (e3.trans h3) (e4.trans h4)
theorem kinds_C {α : Ab} {rn : Nat} {tr : Nat → Nat} {σ : St} (h : AbsC (uRN α rn tr) σ) {n : Nat} (hn : n < (aBK α).length) : σ.2.2.1 500 0 n = nI ((aBK α).getD n 0) := (cSp h).2.1 n hn
/-! the bodies, one by one -/
theorem bd1 {α : Ab} {rn : Nat} {tr : Nat → Nat} {σ : St} (h : AbsC (uRN α rn tr) σ) {g n : Nat} {up x d : Int32} (hn : n < (aBK α).length) (hn2 : n < 50) : (spG (g + 1)).2 σ (nI 1) (nI n) up x d = some (x + nI n, σ) := by
  show f_X10_runBody1 (spG g).1 σ (nI 1) (nI n) up x d = _
  unfold f_X10_runBody1
  rw [chk_in hn2 (by omega), nI_clamp (by omega), kinds_C h hn, bnd_e, if_pos (by decide)]
theorem bd2 {α : Ab} {rn : Nat} {tr : Nat → Nat} {σ : St} (h : AbsC (uRN α rn tr) σ) {g n : Nat} {up x d : Int32} (hn : n < (aBK α).length) (hn2 : n < 50) : (spG (g + 1)).2 σ (nI 2) (nI n) up x d = bnd2 ((spG g).1 σ (nI n) (1 : Int32) (nI ((aBK α).getD n 0)) x d) (fun r6 σ7 => bnd2 ((spG g).1 σ7 (nI n) (2 : Int32) (nI ((aBK α).getD n 0)) (1 : Int32) d) (fun r9 σ10 => some (r6 - r9, σ10))) := by
  show f_X10_runBody1 (spG g).1 σ (nI 2) (nI n) up x d = _
  unfold f_X10_runBody1
  rw [chk_in hn2 (by omega), nI_clamp (by omega), kinds_C h hn, bnd_e, if_neg (by decide), if_pos (by decide)]
theorem bd10 {α : Ab} {rn : Nat} {tr : Nat → Nat} {σ : St} (h : AbsC (uRN α rn tr) σ) {g n : Nat} {up x d : Int32} (hn : n < (aBK α).length) (hn2 : n < 50) : (spG (g + 1)).2 σ (nI 10) (nI n) up x d = bnd2 ((spG g).1 σ (nI n) (0 : Int32) (nI ((aBK α).getD n 0)) x d) (fun r13 σ14 => some (r13 * (2 : Int32), σ14)) := by
  show f_X10_runBody1 (spG g).1 σ (nI 10) (nI n) up x d = _
  unfold f_X10_runBody1
  rw [chk_in hn2 (by omega), nI_clamp (by omega), kinds_C h hn, bnd_e, if_neg (by decide), if_neg (by decide), if_pos (by decide)]
theorem bd11 {α : Ab} {rn : Nat} {tr : Nat → Nat} {σ : St} (h : AbsC (uRN α rn tr) σ) {g n : Nat} {up x d : Int32} (hn : n < (aBK α).length) (hn2 : n < 50) : (spG (g + 1)).2 σ (nI 11) (nI n) up x d = some (x ^^^ nI n, σ) := by
  show f_X10_runBody1 (spG g).1 σ (nI 11) (nI n) up x d = _
  unfold f_X10_runBody1
  rw [chk_in hn2 (by omega), nI_clamp (by omega), kinds_C h hn, bnd_e, if_neg (by decide), if_neg (by decide), if_neg (by decide), if_pos (by decide)]
theorem bd20 {α : Ab} {rn : Nat} {tr : Nat → Nat} {σ : St} (h : AbsC (uRN α rn tr) σ) {g n : Nat} {up x d : Int32} (hn : n < (aBK α).length) (hn2 : n < 50) : (spG (g + 1)).2 σ (nI 20) (nI n) up x d = bnd2 ((spG g).1 σ (nI n) (0 : Int32) up x d) (fun r18 σ19 => some (r18 + (3 : Int32), σ19)) := by
  show f_X10_runBody1 (spG g).1 σ (nI 20) (nI n) up x d = _
  unfold f_X10_runBody1
  rw [chk_in hn2 (by omega), nI_clamp (by omega), kinds_C h hn, bnd_e, if_neg (by decide), if_neg (by decide), if_neg (by decide), if_neg (by decide), if_pos (by decide)]
theorem bd30 {α : Ab} {rn : Nat} {tr : Nat → Nat} {σ : St} (h : AbsC (uRN α rn tr) σ) {g n : Nat} {up x d : Int32} (hn : n < (aBK α).length) (hn2 : n < 50) : (spG (g + 1)).2 σ (nI 30) (nI n) up x d = bnd2 ((spG g).1 σ (nI n) (1 : Int32) up x d) (fun r22 σ23 => some (-r22, σ23)) := by
  show f_X10_runBody1 (spG g).1 σ (nI 30) (nI n) up x d = _
  unfold f_X10_runBody1
  rw [chk_in hn2 (by omega), nI_clamp (by omega), kinds_C h hn, bnd_e, if_neg (by decide), if_neg (by decide), if_neg (by decide), if_neg (by decide), if_neg (by decide), if_pos (by decide)]
theorem bd40 {α : Ab} {rn : Nat} {tr : Nat → Nat} {σ : St} (h : AbsC (uRN α rn tr) σ) {g n : Nat} {up x d : Int32} (hn : n < (aBK α).length) (hn2 : n < 50) : (spG (g + 1)).2 σ (nI 40) (nI n) up x d = bnd2 ((spG g).1 σ (nI n) (2 : Int32) up x d) (fun r26 σ27 => some (r26 * (3 : Int32), σ27)) := by
  show f_X10_runBody1 (spG g).1 σ (nI 40) (nI n) up x d = _
  unfold f_X10_runBody1
  rw [chk_in hn2 (by omega), nI_clamp (by omega), kinds_C h hn, bnd_e, if_neg (by decide), if_neg (by decide), if_neg (by decide), if_neg (by decide), if_neg (by decide), if_neg (by decide), if_pos (by decide)]
theorem bd41 {α : Ab} {rn : Nat} {tr : Nat → Nat} {σ : St} (h : AbsC (uRN α rn tr) σ) {g n : Nat} {up x d : Int32} (hn : n < (aBK α).length) (hn2 : n < 50) : (spG (g + 1)).2 σ (nI 41) (nI n) up x d = bnd2 ((spG g).1 σ (nI n) (1 : Int32) up (x + (1 : Int32)) d) (fun r30 σ31 => some (r30, σ31)) := by
  show f_X10_runBody1 (spG g).1 σ (nI 41) (nI n) up x d = _
  unfold f_X10_runBody1
  rw [chk_in hn2 (by omega), nI_clamp (by omega), kinds_C h hn, bnd_e, if_neg (by decide), if_neg (by decide), if_neg (by decide), if_neg (by decide), if_neg (by decide), if_neg (by decide), if_neg (by decide), if_pos (by decide)]
theorem bd50 {α : Ab} {rn : Nat} {tr : Nat → Nat} {σ : St} (h : AbsC (uRN α rn tr) σ) {g n : Nat} {up x d : Int32} (hn : n < (aBK α).length) (hn2 : n < 50) : (spG (g + 1)).2 σ (nI 50) (nI n) up x d = bnd2 ((spG g).1 σ (nI n) (2 : Int32) up x d) (fun r34 σ35 => bnd2 ((spG g).1 σ35 (nI n) (0 : Int32) (nI ((aBK α).getD n 0)) (2 : Int32) d) (fun r37 σ38 => some (r34 - r37, σ38))) := by
  show f_X10_runBody1 (spG g).1 σ (nI 50) (nI n) up x d = _
  unfold f_X10_runBody1
  rw [chk_in hn2 (by omega), nI_clamp (by omega), kinds_C h hn, bnd_e, if_neg (by decide), if_neg (by decide), if_neg (by decide), if_neg (by decide), if_neg (by decide), if_neg (by decide), if_neg (by decide), if_neg (by decide), if_pos (by decide)]
theorem bd60 {α : Ab} {rn : Nat} {tr : Nat → Nat} {σ : St} (h : AbsC (uRN α rn tr) σ) {g n : Nat} {up x d : Int32} (hn : n < (aBK α).length) (hn2 : n < 50) : (spG (g + 1)).2 σ (nI 60) (nI n) up x d = bnd2 ((spG g).1 σ (nI n) (3 : Int32) up x d) (fun r41 σ42 => some (r41 ^^^ (5 : Int32), σ42)) := by
  show f_X10_runBody1 (spG g).1 σ (nI 60) (nI n) up x d = _
  unfold f_X10_runBody1
  rw [chk_in hn2 (by omega), nI_clamp (by omega), kinds_C h hn, bnd_e, if_neg (by decide), if_neg (by decide), if_neg (by decide), if_neg (by decide), if_neg (by decide), if_neg (by decide), if_neg (by decide), if_neg (by decide), if_neg (by decide), if_pos (by decide)]
theorem bd70 {α : Ab} {rn : Nat} {tr : Nat → Nat} {σ : St} (h : AbsC (uRN α rn tr) σ) {g n : Nat} {up x d : Int32} (hn : n < (aBK α).length) (hn2 : n < 50) : (spG (g + 1)).2 σ (nI 70) (nI n) up x d = bnd2 ((spG g).1 σ (nI n) (0 : Int32) up x d) (fun r45 σ46 => some (r45 * (2 : Int32), σ46)) := by
  show f_X10_runBody1 (spG g).1 σ (nI 70) (nI n) up x d = _
  unfold f_X10_runBody1
  rw [chk_in hn2 (by omega), nI_clamp (by omega), kinds_C h hn, bnd_e, if_neg (by decide), if_neg (by decide), if_neg (by decide), if_neg (by decide), if_neg (by decide), if_neg (by decide), if_neg (by decide), if_neg (by decide), if_neg (by decide), if_neg (by decide), if_pos (by decide)]
theorem bd80 {α : Ab} {rn : Nat} {tr : Nat → Nat} {σ : St} (h : AbsC (uRN α rn tr) σ) {g n : Nat} {up x d : Int32} (hn : n < (aBK α).length) (hn2 : n < 50) : (spG (g + 1)).2 σ (nI 80) (nI n) up x d = bnd2 ((spG g).1 σ (nI n) (1 : Int32) up x d) (fun r49 σ50 => bnd2 ((spG g).1 σ50 (nI n) (2 : Int32) (nI ((aBK α).getD n 0)) (2 : Int32) d) (fun r52 σ53 => some (r49 + r52, σ53))) := by
  show f_X10_runBody1 (spG g).1 σ (nI 80) (nI n) up x d = _
  unfold f_X10_runBody1
  rw [chk_in hn2 (by omega), nI_clamp (by omega), kinds_C h hn, bnd_e, if_neg (by decide), if_neg (by decide), if_neg (by decide), if_neg (by decide), if_neg (by decide), if_neg (by decide), if_neg (by decide), if_neg (by decide), if_neg (by decide), if_neg (by decide), if_neg (by decide), if_pos (by decide)]
theorem bd81 {α : Ab} {rn : Nat} {tr : Nat → Nat} {σ : St} (h : AbsC (uRN α rn tr) σ) {g n : Nat} {up x d : Int32} (hn : n < (aBK α).length) (hn2 : n < 50) : (spG (g + 1)).2 σ (nI 81) (nI n) up x d = bnd2 ((spG g).1 σ (nI n) (3 : Int32) up x d) (fun r56 σ57 => some (r56 - (1 : Int32), σ57)) := by
  show f_X10_runBody1 (spG g).1 σ (nI 81) (nI n) up x d = _
  unfold f_X10_runBody1
  rw [chk_in hn2 (by omega), nI_clamp (by omega), kinds_C h hn, bnd_e, if_neg (by decide), if_neg (by decide), if_neg (by decide), if_neg (by decide), if_neg (by decide), if_neg (by decide), if_neg (by decide), if_neg (by decide), if_neg (by decide), if_neg (by decide), if_neg (by decide), if_neg (by decide), if_pos (by decide)]
theorem says_0 {α : Ab} {n : Nat} (hn : n < (aBK α).length) (hn2 : n < 50) (ho : (aBK α).getD n 0 < 8) : ∀ g f d x σ τ rn tr, d ≤ 38 → rn + 1 ≤ 90 → AbsC (uRN α rn tr) σ → AbsM (uRN α rn tr) τ → τ.1 637 0 = nI ((aBK α).getD n 0) → τ.1 638 0 = nI n → BT α ((aBK α).getD n 0) n (rn + 1) ((spG (g + 2)).1 σ (nI n) (nI 0) (nI 0) x (nI d)) (f_X12_saysAs_n (f + 1) τ (nI 0) x) := by
  intro g f d x σ τ rn tr hd hr h hm m1 m2
  rw [perform_C h (by omega) (show 0 < 8 by omega) (show 0 < 4 by omega) (show d ≤ 40 by omega), show bdy 0 0 = 1 from by decide, show upk 0 0 = 0 from by decide]
  refine bt_some ?_
  show BT _ _ _ _ _ (f_X12_saysAs1 (f_X12_saysAs_n (f + 0)) τ (nI 0) x)
  unfold f_X12_saysAs1
  rw [if_neg (by decide), if_neg (by decide), if_neg (by decide), if_neg (by decide)]
  refine bt_beg (b := 1) hm m1 m2 (by omega) ?_
  intro τ1 h1 h2 h3
  have hC := bg_abs h (show rn < 100 by omega) 1
  rw [bd1 (g := g + 0) hC hn hn2]
  rw [h3]
  exact bt_ret hC h1 h2 h3 (by omega)
theorem says_1 {α : Ab} {n : Nat} (hn : n < (aBK α).length) (hn2 : n < 50) (ho : (aBK α).getD n 0 < 8) : ∀ g f d x σ τ rn tr, d ≤ 37 → rn + 2 ≤ 90 → AbsC (uRN α rn tr) σ → AbsM (uRN α rn tr) τ → τ.1 637 0 = nI ((aBK α).getD n 0) → τ.1 638 0 = nI n → BT α ((aBK α).getD n 0) n (rn + 2) ((spG (g + 4)).1 σ (nI n) (nI 0) (nI 1) x (nI d)) (f_X12_saysAs_n (f + 2) τ (nI 1) x) := by
  intro g f d x σ τ rn tr hd hr h hm m1 m2
  rw [perform_C h (by omega) (show 1 < 8 by omega) (show 0 < 4 by omega) (show d ≤ 40 by omega), show bdy 0 1 = 20 from by decide, show upk 0 1 = 0 from by decide]
  refine bt_some ?_
  show BT _ _ _ _ _ (f_X12_saysAs1 (f_X12_saysAs_n (f + 1)) τ (nI 1) x)
  unfold f_X12_saysAs1
  rw [if_pos (by decide)]
  unfold f_X12_saysAs_b16
  refine bt_beg (b := 20) hm m1 m2 (by omega) ?_
  intro τ1 h1 h2 h3
  have hC := bg_abs h (show rn < 100 by omega) 20
  rw [bd20 (g := g + 2) hC hn hn2]
  refine bt_bnd (says_0 hn hn2 ho (g + 0) (f + 0) (d + 1) x _ _ _ _ (by omega) (by omega) hC h1 h2 h3) ?_
  intro r σ' τ' rn' tr' q1 q2 q3 q4 q5
  exact bt_ret q1 q2 q3 q4 (by omega)
theorem says_2 {α : Ab} {n : Nat} (hn : n < (aBK α).length) (hn2 : n < 50) (ho : (aBK α).getD n 0 < 8) : ∀ g f d x σ τ rn tr, d ≤ 38 → rn + 1 ≤ 90 → AbsC (uRN α rn tr) σ → AbsM (uRN α rn tr) τ → τ.1 637 0 = nI ((aBK α).getD n 0) → τ.1 638 0 = nI n → BT α ((aBK α).getD n 0) n (rn + 1) ((spG (g + 2)).1 σ (nI n) (nI 0) (nI 2) x (nI d)) (f_X12_saysAs_n (f + 1) τ (nI 2) x) := by
  intro g f d x σ τ rn tr hd hr h hm m1 m2
  rw [perform_C h (by omega) (show 2 < 8 by omega) (show 0 < 4 by omega) (show d ≤ 40 by omega), show bdy 0 2 = 1 from by decide, show upk 0 2 = 0 from by decide]
  refine bt_some ?_
  show BT _ _ _ _ _ (f_X12_saysAs1 (f_X12_saysAs_n (f + 0)) τ (nI 2) x)
  unfold f_X12_saysAs1
  rw [if_neg (by decide), if_neg (by decide), if_neg (by decide), if_neg (by decide)]
  refine bt_beg (b := 1) hm m1 m2 (by omega) ?_
  intro τ1 h1 h2 h3
  have hC := bg_abs h (show rn < 100 by omega) 1
  rw [bd1 (g := g + 0) hC hn hn2]
  rw [h3]
  exact bt_ret hC h1 h2 h3 (by omega)
theorem says_3 {α : Ab} {n : Nat} (hn : n < (aBK α).length) (hn2 : n < 50) (ho : (aBK α).getD n 0 < 8) : ∀ g f d x σ τ rn tr, d ≤ 38 → rn + 1 ≤ 90 → AbsC (uRN α rn tr) σ → AbsM (uRN α rn tr) τ → τ.1 637 0 = nI ((aBK α).getD n 0) → τ.1 638 0 = nI n → BT α ((aBK α).getD n 0) n (rn + 1) ((spG (g + 2)).1 σ (nI n) (nI 0) (nI 3) x (nI d)) (f_X12_saysAs_n (f + 1) τ (nI 3) x) := by
  intro g f d x σ τ rn tr hd hr h hm m1 m2
  rw [perform_C h (by omega) (show 3 < 8 by omega) (show 0 < 4 by omega) (show d ≤ 40 by omega), show bdy 0 3 = 1 from by decide, show upk 0 3 = 0 from by decide]
  refine bt_some ?_
  show BT _ _ _ _ _ (f_X12_saysAs1 (f_X12_saysAs_n (f + 0)) τ (nI 3) x)
  unfold f_X12_saysAs1
  rw [if_neg (by decide), if_neg (by decide), if_neg (by decide), if_neg (by decide)]
  refine bt_beg (b := 1) hm m1 m2 (by omega) ?_
  intro τ1 h1 h2 h3
  have hC := bg_abs h (show rn < 100 by omega) 1
  rw [bd1 (g := g + 0) hC hn hn2]
  rw [h3]
  exact bt_ret hC h1 h2 h3 (by omega)
theorem says_4 {α : Ab} {n : Nat} (hn : n < (aBK α).length) (hn2 : n < 50) (ho : (aBK α).getD n 0 < 8) : ∀ g f d x σ τ rn tr, d ≤ 37 → rn + 2 ≤ 90 → AbsC (uRN α rn tr) σ → AbsM (uRN α rn tr) τ → τ.1 637 0 = nI ((aBK α).getD n 0) → τ.1 638 0 = nI n → BT α ((aBK α).getD n 0) n (rn + 2) ((spG (g + 4)).1 σ (nI n) (nI 0) (nI 4) x (nI d)) (f_X12_saysAs_n (f + 2) τ (nI 4) x) := by
  intro g f d x σ τ rn tr hd hr h hm m1 m2
  rw [perform_C h (by omega) (show 4 < 8 by omega) (show 0 < 4 by omega) (show d ≤ 40 by omega), show bdy 0 4 = 20 from by decide, show upk 0 4 = 0 from by decide]
  refine bt_some ?_
  show BT _ _ _ _ _ (f_X12_saysAs1 (f_X12_saysAs_n (f + 1)) τ (nI 4) x)
  unfold f_X12_saysAs1
  rw [if_neg (by decide), if_pos (by decide)]
  unfold f_X12_saysAs_b16
  refine bt_beg (b := 20) hm m1 m2 (by omega) ?_
  intro τ1 h1 h2 h3
  have hC := bg_abs h (show rn < 100 by omega) 20
  rw [bd20 (g := g + 2) hC hn hn2]
  refine bt_bnd (says_0 hn hn2 ho (g + 0) (f + 0) (d + 1) x _ _ _ _ (by omega) (by omega) hC h1 h2 h3) ?_
  intro r σ' τ' rn' tr' q1 q2 q3 q4 q5
  exact bt_ret q1 q2 q3 q4 (by omega)
theorem says_5 {α : Ab} {n : Nat} (hn : n < (aBK α).length) (hn2 : n < 50) (ho : (aBK α).getD n 0 < 8) : ∀ g f d x σ τ rn tr, d ≤ 38 → rn + 1 ≤ 90 → AbsC (uRN α rn tr) σ → AbsM (uRN α rn tr) τ → τ.1 637 0 = nI ((aBK α).getD n 0) → τ.1 638 0 = nI n → BT α ((aBK α).getD n 0) n (rn + 1) ((spG (g + 2)).1 σ (nI n) (nI 0) (nI 5) x (nI d)) (f_X12_saysAs_n (f + 1) τ (nI 5) x) := by
  intro g f d x σ τ rn tr hd hr h hm m1 m2
  rw [perform_C h (by omega) (show 5 < 8 by omega) (show 0 < 4 by omega) (show d ≤ 40 by omega), show bdy 0 5 = 1 from by decide, show upk 0 5 = 0 from by decide]
  refine bt_some ?_
  show BT _ _ _ _ _ (f_X12_saysAs1 (f_X12_saysAs_n (f + 0)) τ (nI 5) x)
  unfold f_X12_saysAs1
  rw [if_neg (by decide), if_neg (by decide), if_neg (by decide), if_neg (by decide)]
  refine bt_beg (b := 1) hm m1 m2 (by omega) ?_
  intro τ1 h1 h2 h3
  have hC := bg_abs h (show rn < 100 by omega) 1
  rw [bd1 (g := g + 0) hC hn hn2]
  rw [h3]
  exact bt_ret hC h1 h2 h3 (by omega)
theorem says_6 {α : Ab} {n : Nat} (hn : n < (aBK α).length) (hn2 : n < 50) (ho : (aBK α).getD n 0 < 8) : ∀ g f d x σ τ rn tr, d ≤ 37 → rn + 2 ≤ 90 → AbsC (uRN α rn tr) σ → AbsM (uRN α rn tr) τ → τ.1 637 0 = nI ((aBK α).getD n 0) → τ.1 638 0 = nI n → BT α ((aBK α).getD n 0) n (rn + 2) ((spG (g + 4)).1 σ (nI n) (nI 0) (nI 6) x (nI d)) (f_X12_saysAs_n (f + 2) τ (nI 6) x) := by
  intro g f d x σ τ rn tr hd hr h hm m1 m2
  rw [perform_C h (by omega) (show 6 < 8 by omega) (show 0 < 4 by omega) (show d ≤ 40 by omega), show bdy 0 6 = 70 from by decide, show upk 0 6 = 0 from by decide]
  refine bt_some ?_
  show BT _ _ _ _ _ (f_X12_saysAs1 (f_X12_saysAs_n (f + 1)) τ (nI 6) x)
  unfold f_X12_saysAs1
  rw [if_neg (by decide), if_neg (by decide), if_neg (by decide), if_pos (by decide)]
  refine bt_beg (b := 70) hm m1 m2 (by omega) ?_
  intro τ1 h1 h2 h3
  have hC := bg_abs h (show rn < 100 by omega) 70
  rw [bd70 (g := g + 2) hC hn hn2]
  refine bt_bnd (says_0 hn hn2 ho (g + 0) (f + 0) (d + 1) x _ _ _ _ (by omega) (by omega) hC h1 h2 h3) ?_
  intro r σ' τ' rn' tr' q1 q2 q3 q4 q5
  exact bt_ret q1 q2 q3 q4 (by omega)
theorem says_7 {α : Ab} {n : Nat} (hn : n < (aBK α).length) (hn2 : n < 50) (ho : (aBK α).getD n 0 < 8) : ∀ g f d x σ τ rn tr, d ≤ 37 → rn + 2 ≤ 90 → AbsC (uRN α rn tr) σ → AbsM (uRN α rn tr) τ → τ.1 637 0 = nI ((aBK α).getD n 0) → τ.1 638 0 = nI n → BT α ((aBK α).getD n 0) n (rn + 2) ((spG (g + 4)).1 σ (nI n) (nI 0) (nI 7) x (nI d)) (f_X12_saysAs_n (f + 2) τ (nI 7) x) := by
  intro g f d x σ τ rn tr hd hr h hm m1 m2
  rw [perform_C h (by omega) (show 7 < 8 by omega) (show 0 < 4 by omega) (show d ≤ 40 by omega), show bdy 0 7 = 20 from by decide, show upk 0 7 = 0 from by decide]
  refine bt_some ?_
  show BT _ _ _ _ _ (f_X12_saysAs1 (f_X12_saysAs_n (f + 1)) τ (nI 7) x)
  unfold f_X12_saysAs1
  rw [if_neg (by decide), if_neg (by decide), if_pos (by decide)]
  unfold f_X12_saysAs_b16
  refine bt_beg (b := 20) hm m1 m2 (by omega) ?_
  intro τ1 h1 h2 h3
  have hC := bg_abs h (show rn < 100 by omega) 20
  rw [bd20 (g := g + 2) hC hn hn2]
  refine bt_bnd (says_0 hn hn2 ho (g + 0) (f + 0) (d + 1) x _ _ _ _ (by omega) (by omega) hC h1 h2 h3) ?_
  intro r σ' τ' rn' tr' q1 q2 q3 q4 q5
  exact bt_ret q1 q2 q3 q4 (by omega)
theorem says_T {α : Ab} {n : Nat} (hn : n < (aBK α).length) (hn2 : n < 50) (ho : (aBK α).getD n 0 < 8) : ∀ k, k < 8 → ∀ g f d x σ τ rn tr, d ≤ 37 → rn + 2 ≤ 90 → AbsC (uRN α rn tr) σ → AbsM (uRN α rn tr) τ → τ.1 637 0 = nI ((aBK α).getD n 0) → τ.1 638 0 = nI n → BT α ((aBK α).getD n 0) n (rn + 2) ((spG (g + 4)).1 σ (nI n) (nI 0) (nI k) x (nI d)) (f_X12_saysAs_n (f + 2) τ (nI k) x) := by
  intro k hk g f d x σ τ rn tr hd hr h hm m1 m2
  have up_ : ∀ {c : Nat} {o1 o2 : Option (Int32 × St)}, c ≤ rn + 2 → BT α ((aBK α).getD n 0) n c o1 o2 → BT α ((aBK α).getD n 0) n (rn + 2) o1 o2 := by
    intro c o1 o2 hc hb
    obtain ⟨r, σ', τ', rn', tr', e1, e2, e3, e4, e5, e6, e7⟩ := hb
    exact ⟨r, σ', τ', rn', tr', e1, e2, e3, e4, e5, e6, by omega⟩
  rcases (show k = 0 ∨ k = 1 ∨ k = 2 ∨ k = 3 ∨ k = 4 ∨ k = 5 ∨ k = 6 ∨ k = 7 by omega) with e | e | e | e | e | e | e | e
  · subst e
    exact up_ (by omega) (says_0 hn hn2 ho (g + 2) (f + 1) d x σ τ rn tr (by omega) (by omega) h hm m1 m2)
  · subst e
    exact up_ (by omega) (says_1 hn hn2 ho (g + 0) (f + 0) d x σ τ rn tr (by omega) (by omega) h hm m1 m2)
  · subst e
    exact up_ (by omega) (says_2 hn hn2 ho (g + 2) (f + 1) d x σ τ rn tr (by omega) (by omega) h hm m1 m2)
  · subst e
    exact up_ (by omega) (says_3 hn hn2 ho (g + 2) (f + 1) d x σ τ rn tr (by omega) (by omega) h hm m1 m2)
  · subst e
    exact up_ (by omega) (says_4 hn hn2 ho (g + 0) (f + 0) d x σ τ rn tr (by omega) (by omega) h hm m1 m2)
  · subst e
    exact up_ (by omega) (says_5 hn hn2 ho (g + 2) (f + 1) d x σ τ rn tr (by omega) (by omega) h hm m1 m2)
  · subst e
    exact up_ (by omega) (says_6 hn hn2 ho (g + 0) (f + 0) d x σ τ rn tr (by omega) (by omega) h hm m1 m2)
  · subst e
    exact up_ (by omega) (says_7 hn hn2 ho (g + 0) (f + 0) d x σ τ rn tr (by omega) (by omega) h hm m1 m2)
theorem asks_0 {α : Ab} {n : Nat} (hn : n < (aBK α).length) (hn2 : n < 50) (ho : (aBK α).getD n 0 < 8) : ∀ g f d x σ τ rn tr, d ≤ 38 → rn + 1 ≤ 90 → AbsC (uRN α rn tr) σ → AbsM (uRN α rn tr) τ → τ.1 637 0 = nI ((aBK α).getD n 0) → τ.1 638 0 = nI n → BT α ((aBK α).getD n 0) n (rn + 1) ((spG (g + 2)).1 σ (nI n) (nI 2) (nI 0) x (nI d)) (f_X12_asksAs_n (f + 1) τ (nI 0) x) := by
  intro g f d x σ τ rn tr hd hr h hm m1 m2
  rw [perform_C h (by omega) (show 0 < 8 by omega) (show 2 < 4 by omega) (show d ≤ 40 by omega), show bdy 2 0 = 11 from by decide, show upk 2 0 = 0 from by decide]
  refine bt_some ?_
  show BT _ _ _ _ _ (f_X12_asksAs1 (f_X12_asksAs_n (f + 0)) τ (nI 0) x)
  unfold f_X12_asksAs1
  rw [if_neg (by decide), if_neg (by decide), if_neg (by decide), if_neg (by decide)]
  refine bt_beg (b := 11) hm m1 m2 (by omega) ?_
  intro τ1 h1 h2 h3
  have hC := bg_abs h (show rn < 100 by omega) 11
  rw [bd11 (g := g + 0) hC hn hn2]
  rw [h3]
  exact bt_ret hC h1 h2 h3 (by omega)
theorem asks_1 {α : Ab} {n : Nat} (hn : n < (aBK α).length) (hn2 : n < 50) (ho : (aBK α).getD n 0 < 8) : ∀ g f d x σ τ rn tr, d ≤ 38 → rn + 1 ≤ 90 → AbsC (uRN α rn tr) σ → AbsM (uRN α rn tr) τ → τ.1 637 0 = nI ((aBK α).getD n 0) → τ.1 638 0 = nI n → BT α ((aBK α).getD n 0) n (rn + 1) ((spG (g + 2)).1 σ (nI n) (nI 2) (nI 1) x (nI d)) (f_X12_asksAs_n (f + 1) τ (nI 1) x) := by
  intro g f d x σ τ rn tr hd hr h hm m1 m2
  rw [perform_C h (by omega) (show 1 < 8 by omega) (show 2 < 4 by omega) (show d ≤ 40 by omega), show bdy 2 1 = 11 from by decide, show upk 2 1 = 0 from by decide]
  refine bt_some ?_
  show BT _ _ _ _ _ (f_X12_asksAs1 (f_X12_asksAs_n (f + 0)) τ (nI 1) x)
  unfold f_X12_asksAs1
  rw [if_neg (by decide), if_neg (by decide), if_neg (by decide), if_neg (by decide)]
  refine bt_beg (b := 11) hm m1 m2 (by omega) ?_
  intro τ1 h1 h2 h3
  have hC := bg_abs h (show rn < 100 by omega) 11
  rw [bd11 (g := g + 0) hC hn hn2]
  rw [h3]
  exact bt_ret hC h1 h2 h3 (by omega)
theorem asks_2 {α : Ab} {n : Nat} (hn : n < (aBK α).length) (hn2 : n < 50) (ho : (aBK α).getD n 0 < 8) : ∀ g f d x σ τ rn tr, d ≤ 38 → rn + 1 ≤ 90 → AbsC (uRN α rn tr) σ → AbsM (uRN α rn tr) τ → τ.1 637 0 = nI ((aBK α).getD n 0) → τ.1 638 0 = nI n → BT α ((aBK α).getD n 0) n (rn + 1) ((spG (g + 2)).1 σ (nI n) (nI 2) (nI 2) x (nI d)) (f_X12_asksAs_n (f + 1) τ (nI 2) x) := by
  intro g f d x σ τ rn tr hd hr h hm m1 m2
  rw [perform_C h (by omega) (show 2 < 8 by omega) (show 2 < 4 by omega) (show d ≤ 40 by omega), show bdy 2 2 = 11 from by decide, show upk 2 2 = 0 from by decide]
  refine bt_some ?_
  show BT _ _ _ _ _ (f_X12_asksAs1 (f_X12_asksAs_n (f + 0)) τ (nI 2) x)
  unfold f_X12_asksAs1
  rw [if_neg (by decide), if_neg (by decide), if_neg (by decide), if_neg (by decide)]
  refine bt_beg (b := 11) hm m1 m2 (by omega) ?_
  intro τ1 h1 h2 h3
  have hC := bg_abs h (show rn < 100 by omega) 11
  rw [bd11 (g := g + 0) hC hn hn2]
  rw [h3]
  exact bt_ret hC h1 h2 h3 (by omega)
theorem asks_3 {α : Ab} {n : Nat} (hn : n < (aBK α).length) (hn2 : n < 50) (ho : (aBK α).getD n 0 < 8) : ∀ g f d x σ τ rn tr, d ≤ 37 → rn + 2 ≤ 90 → AbsC (uRN α rn tr) σ → AbsM (uRN α rn tr) τ → τ.1 637 0 = nI ((aBK α).getD n 0) → τ.1 638 0 = nI n → BT α ((aBK α).getD n 0) n (rn + 2) ((spG (g + 4)).1 σ (nI n) (nI 2) (nI 3) x (nI d)) (f_X12_asksAs_n (f + 2) τ (nI 3) x) := by
  intro g f d x σ τ rn tr hd hr h hm m1 m2
  rw [perform_C h (by omega) (show 3 < 8 by omega) (show 2 < 4 by omega) (show d ≤ 40 by omega), show bdy 2 3 = 40 from by decide, show upk 2 3 = 2 from by decide]
  refine bt_some ?_
  show BT _ _ _ _ _ (f_X12_asksAs1 (f_X12_asksAs_n (f + 1)) τ (nI 3) x)
  unfold f_X12_asksAs1
  rw [if_pos (by decide)]
  unfold f_X12_asksAs_b10
  refine bt_beg (b := 40) hm m1 m2 (by omega) ?_
  intro τ1 h1 h2 h3
  have hC := bg_abs h (show rn < 100 by omega) 40
  rw [bd40 (g := g + 2) hC hn hn2]
  refine bt_bnd (asks_2 hn hn2 ho (g + 0) (f + 0) (d + 1) x _ _ _ _ (by omega) (by omega) hC h1 h2 h3) ?_
  intro r σ' τ' rn' tr' q1 q2 q3 q4 q5
  exact bt_ret q1 q2 q3 q4 (by omega)
theorem asks_4 {α : Ab} {n : Nat} (hn : n < (aBK α).length) (hn2 : n < 50) (ho : (aBK α).getD n 0 < 8) : ∀ g f d x σ τ rn tr, d ≤ 36 → rn + 4 ≤ 90 → AbsC (uRN α rn tr) σ → AbsM (uRN α rn tr) τ → τ.1 637 0 = nI ((aBK α).getD n 0) → τ.1 638 0 = nI n → BT α ((aBK α).getD n 0) n (rn + 4) ((spG (g + 6)).1 σ (nI n) (nI 2) (nI 4) x (nI d)) (f_X12_asksAs_n (f + 2) τ (nI 4) x) := by
  intro g f d x σ τ rn tr hd hr h hm m1 m2
  rw [perform_C h (by omega) (show 4 < 8 by omega) (show 2 < 4 by omega) (show d ≤ 40 by omega), show bdy 2 4 = 50 from by decide, show upk 2 4 = 1 from by decide]
  refine bt_some ?_
  show BT _ _ _ _ _ (f_X12_asksAs1 (f_X12_asksAs_n (f + 1)) τ (nI 4) x)
  unfold f_X12_asksAs1
  rw [if_neg (by decide), if_neg (by decide), if_pos (by decide)]
  unfold f_X12_asksAs_b36
  refine bt_beg (b := 50) hm m1 m2 (by omega) ?_
  intro τ1 h1 h2 h3
  have hC := bg_abs h (show rn < 100 by omega) 50
  rw [bd50 (g := g + 4) hC hn hn2]
  refine bt_bnd (asks_1 hn hn2 ho (g + 2) (f + 0) (d + 1) x _ _ _ _ (by omega) (by omega) hC h1 h2 h3) ?_
  intro r σ' τ' rn' tr' q1 q2 q3 q4 q5
  rw [q3]
  refine bt_bnd (says_T hn hn2 ho _ ho (g + 0) 3 (d + 1) 2 _ _ _ _ (by omega) (by omega) q1 q2 q3 q4) ?_
  intro r2 σ2 τ2 rn2 tr2 w1 w2 w3 w4 w5
  exact bt_ret w1 w2 w3 w4 (by omega)
theorem asks_5 {α : Ab} {n : Nat} (hn : n < (aBK α).length) (hn2 : n < 50) (ho : (aBK α).getD n 0 < 8) : ∀ g f d x σ τ rn tr, d ≤ 37 → rn + 2 ≤ 90 → AbsC (uRN α rn tr) σ → AbsM (uRN α rn tr) τ → τ.1 637 0 = nI ((aBK α).getD n 0) → τ.1 638 0 = nI n → BT α ((aBK α).getD n 0) n (rn + 2) ((spG (g + 4)).1 σ (nI n) (nI 2) (nI 5) x (nI d)) (f_X12_asksAs_n (f + 2) τ (nI 5) x) := by
  intro g f d x σ τ rn tr hd hr h hm m1 m2
  rw [perform_C h (by omega) (show 5 < 8 by omega) (show 2 < 4 by omega) (show d ≤ 40 by omega), show bdy 2 5 = 40 from by decide, show upk 2 5 = 2 from by decide]
  refine bt_some ?_
  show BT _ _ _ _ _ (f_X12_asksAs1 (f_X12_asksAs_n (f + 1)) τ (nI 5) x)
  unfold f_X12_asksAs1
  rw [if_neg (by decide), if_pos (by decide)]
  unfold f_X12_asksAs_b10
  refine bt_beg (b := 40) hm m1 m2 (by omega) ?_
  intro τ1 h1 h2 h3
  have hC := bg_abs h (show rn < 100 by omega) 40
  rw [bd40 (g := g + 2) hC hn hn2]
  refine bt_bnd (asks_2 hn hn2 ho (g + 0) (f + 0) (d + 1) x _ _ _ _ (by omega) (by omega) hC h1 h2 h3) ?_
  intro r σ' τ' rn' tr' q1 q2 q3 q4 q5
  exact bt_ret q1 q2 q3 q4 (by omega)
theorem asks_6 {α : Ab} {n : Nat} (hn : n < (aBK α).length) (hn2 : n < 50) (ho : (aBK α).getD n 0 < 8) : ∀ g f d x σ τ rn tr, d ≤ 38 → rn + 1 ≤ 90 → AbsC (uRN α rn tr) σ → AbsM (uRN α rn tr) τ → τ.1 637 0 = nI ((aBK α).getD n 0) → τ.1 638 0 = nI n → BT α ((aBK α).getD n 0) n (rn + 1) ((spG (g + 2)).1 σ (nI n) (nI 2) (nI 6) x (nI d)) (f_X12_asksAs_n (f + 1) τ (nI 6) x) := by
  intro g f d x σ τ rn tr hd hr h hm m1 m2
  rw [perform_C h (by omega) (show 6 < 8 by omega) (show 2 < 4 by omega) (show d ≤ 40 by omega), show bdy 2 6 = 11 from by decide, show upk 2 6 = 0 from by decide]
  refine bt_some ?_
  show BT _ _ _ _ _ (f_X12_asksAs1 (f_X12_asksAs_n (f + 0)) τ (nI 6) x)
  unfold f_X12_asksAs1
  rw [if_neg (by decide), if_neg (by decide), if_neg (by decide), if_neg (by decide)]
  refine bt_beg (b := 11) hm m1 m2 (by omega) ?_
  intro τ1 h1 h2 h3
  have hC := bg_abs h (show rn < 100 by omega) 11
  rw [bd11 (g := g + 0) hC hn hn2]
  rw [h3]
  exact bt_ret hC h1 h2 h3 (by omega)
theorem asks_7 {α : Ab} {n : Nat} (hn : n < (aBK α).length) (hn2 : n < 50) (ho : (aBK α).getD n 0 < 8) : ∀ g f d x σ τ rn tr, d ≤ 36 → rn + 4 ≤ 90 → AbsC (uRN α rn tr) σ → AbsM (uRN α rn tr) τ → τ.1 637 0 = nI ((aBK α).getD n 0) → τ.1 638 0 = nI n → BT α ((aBK α).getD n 0) n (rn + 4) ((spG (g + 6)).1 σ (nI n) (nI 2) (nI 7) x (nI d)) (f_X12_asksAs_n (f + 2) τ (nI 7) x) := by
  intro g f d x σ τ rn tr hd hr h hm m1 m2
  rw [perform_C h (by omega) (show 7 < 8 by omega) (show 2 < 4 by omega) (show d ≤ 40 by omega), show bdy 2 7 = 50 from by decide, show upk 2 7 = 1 from by decide]
  refine bt_some ?_
  show BT _ _ _ _ _ (f_X12_asksAs1 (f_X12_asksAs_n (f + 1)) τ (nI 7) x)
  unfold f_X12_asksAs1
  rw [if_neg (by decide), if_neg (by decide), if_neg (by decide), if_pos (by decide)]
  unfold f_X12_asksAs_b36
  refine bt_beg (b := 50) hm m1 m2 (by omega) ?_
  intro τ1 h1 h2 h3
  have hC := bg_abs h (show rn < 100 by omega) 50
  rw [bd50 (g := g + 4) hC hn hn2]
  refine bt_bnd (asks_1 hn hn2 ho (g + 2) (f + 0) (d + 1) x _ _ _ _ (by omega) (by omega) hC h1 h2 h3) ?_
  intro r σ' τ' rn' tr' q1 q2 q3 q4 q5
  rw [q3]
  refine bt_bnd (says_T hn hn2 ho _ ho (g + 0) 3 (d + 1) 2 _ _ _ _ (by omega) (by omega) q1 q2 q3 q4) ?_
  intro r2 σ2 τ2 rn2 tr2 w1 w2 w3 w4 w5
  exact bt_ret w1 w2 w3 w4 (by omega)
theorem asks_T {α : Ab} {n : Nat} (hn : n < (aBK α).length) (hn2 : n < 50) (ho : (aBK α).getD n 0 < 8) : ∀ k, k < 8 → ∀ g f d x σ τ rn tr, d ≤ 36 → rn + 4 ≤ 90 → AbsC (uRN α rn tr) σ → AbsM (uRN α rn tr) τ → τ.1 637 0 = nI ((aBK α).getD n 0) → τ.1 638 0 = nI n → BT α ((aBK α).getD n 0) n (rn + 4) ((spG (g + 6)).1 σ (nI n) (nI 2) (nI k) x (nI d)) (f_X12_asksAs_n (f + 2) τ (nI k) x) := by
  intro k hk g f d x σ τ rn tr hd hr h hm m1 m2
  have up_ : ∀ {c : Nat} {o1 o2 : Option (Int32 × St)}, c ≤ rn + 4 → BT α ((aBK α).getD n 0) n c o1 o2 → BT α ((aBK α).getD n 0) n (rn + 4) o1 o2 := by
    intro c o1 o2 hc hb
    obtain ⟨r, σ', τ', rn', tr', e1, e2, e3, e4, e5, e6, e7⟩ := hb
    exact ⟨r, σ', τ', rn', tr', e1, e2, e3, e4, e5, e6, by omega⟩
  rcases (show k = 0 ∨ k = 1 ∨ k = 2 ∨ k = 3 ∨ k = 4 ∨ k = 5 ∨ k = 6 ∨ k = 7 by omega) with e | e | e | e | e | e | e | e
  · subst e
    exact up_ (by omega) (asks_0 hn hn2 ho (g + 4) (f + 1) d x σ τ rn tr (by omega) (by omega) h hm m1 m2)
  · subst e
    exact up_ (by omega) (asks_1 hn hn2 ho (g + 4) (f + 1) d x σ τ rn tr (by omega) (by omega) h hm m1 m2)
  · subst e
    exact up_ (by omega) (asks_2 hn hn2 ho (g + 4) (f + 1) d x σ τ rn tr (by omega) (by omega) h hm m1 m2)
  · subst e
    exact up_ (by omega) (asks_3 hn hn2 ho (g + 2) (f + 0) d x σ τ rn tr (by omega) (by omega) h hm m1 m2)
  · subst e
    exact up_ (by omega) (asks_4 hn hn2 ho (g + 0) (f + 0) d x σ τ rn tr (by omega) (by omega) h hm m1 m2)
  · subst e
    exact up_ (by omega) (asks_5 hn hn2 ho (g + 2) (f + 0) d x σ τ rn tr (by omega) (by omega) h hm m1 m2)
  · subst e
    exact up_ (by omega) (asks_6 hn hn2 ho (g + 4) (f + 1) d x σ τ rn tr (by omega) (by omega) h hm m1 m2)
  · subst e
    exact up_ (by omega) (asks_7 hn hn2 ho (g + 0) (f + 0) d x σ τ rn tr (by omega) (by omega) h hm m1 m2)
theorem hears_0 {α : Ab} {n : Nat} (hn : n < (aBK α).length) (hn2 : n < 50) (ho : (aBK α).getD n 0 < 8) : ∀ g f d x σ τ rn tr, d ≤ 36 → rn + 3 ≤ 90 → AbsC (uRN α rn tr) σ → AbsM (uRN α rn tr) τ → τ.1 637 0 = nI ((aBK α).getD n 0) → τ.1 638 0 = nI n → BT α ((aBK α).getD n 0) n (rn + 3) ((spG (g + 6)).1 σ (nI n) (nI 1) (nI 0) x (nI d)) (f_X12_hearsAs_n (f + 1) τ (nI 0) x) := by
  intro g f d x σ τ rn tr hd hr h hm m1 m2
  rw [perform_C h (by omega) (show 0 < 8 by omega) (show 1 < 4 by omega) (show d ≤ 40 by omega), show bdy 1 0 = 10 from by decide, show upk 1 0 = 0 from by decide]
  refine bt_some ?_
  show BT _ _ _ _ _ (f_X12_hearsAs1 (f_X12_hearsAs_n (f + 0)) τ (nI 0) x)
  unfold f_X12_hearsAs1
  rw [if_neg (by decide), if_neg (by decide), if_neg (by decide), if_neg (by decide)]
  refine bt_beg (b := 10) hm m1 m2 (by omega) ?_
  intro τ1 h1 h2 h3
  have hC := bg_abs h (show rn < 100 by omega) 10
  rw [bd10 (g := g + 4) hC hn hn2]
  rw [h2]
  refine bt_bnd (says_T hn hn2 ho _ ho (g + 0) 3 (d + 1) x _ _ _ _ (by omega) (by omega) hC h1 h2 h3) ?_
  intro r σ' τ' rn' tr' q1 q2 q3 q4 q5
  exact bt_ret q1 q2 q3 q4 (by omega)
theorem hears_1 {α : Ab} {n : Nat} (hn : n < (aBK α).length) (hn2 : n < 50) (ho : (aBK α).getD n 0 < 8) : ∀ g f d x σ τ rn tr, d ≤ 36 → rn + 3 ≤ 90 → AbsC (uRN α rn tr) σ → AbsM (uRN α rn tr) τ → τ.1 637 0 = nI ((aBK α).getD n 0) → τ.1 638 0 = nI n → BT α ((aBK α).getD n 0) n (rn + 3) ((spG (g + 6)).1 σ (nI n) (nI 1) (nI 1) x (nI d)) (f_X12_hearsAs_n (f + 1) τ (nI 1) x) := by
  intro g f d x σ τ rn tr hd hr h hm m1 m2
  rw [perform_C h (by omega) (show 1 < 8 by omega) (show 1 < 4 by omega) (show d ≤ 40 by omega), show bdy 1 1 = 10 from by decide, show upk 1 1 = 0 from by decide]
  refine bt_some ?_
  show BT _ _ _ _ _ (f_X12_hearsAs1 (f_X12_hearsAs_n (f + 0)) τ (nI 1) x)
  unfold f_X12_hearsAs1
  rw [if_neg (by decide), if_neg (by decide), if_neg (by decide), if_neg (by decide)]
  refine bt_beg (b := 10) hm m1 m2 (by omega) ?_
  intro τ1 h1 h2 h3
  have hC := bg_abs h (show rn < 100 by omega) 10
  rw [bd10 (g := g + 4) hC hn hn2]
  rw [h2]
  refine bt_bnd (says_T hn hn2 ho _ ho (g + 0) 3 (d + 1) x _ _ _ _ (by omega) (by omega) hC h1 h2 h3) ?_
  intro r σ' τ' rn' tr' q1 q2 q3 q4 q5
  exact bt_ret q1 q2 q3 q4 (by omega)
theorem hears_2 {α : Ab} {n : Nat} (hn : n < (aBK α).length) (hn2 : n < 50) (ho : (aBK α).getD n 0 < 8) : ∀ g f d x σ τ rn tr, d ≤ 35 → rn + 4 ≤ 90 → AbsC (uRN α rn tr) σ → AbsM (uRN α rn tr) τ → τ.1 637 0 = nI ((aBK α).getD n 0) → τ.1 638 0 = nI n → BT α ((aBK α).getD n 0) n (rn + 4) ((spG (g + 8)).1 σ (nI n) (nI 1) (nI 2) x (nI d)) (f_X12_hearsAs_n (f + 2) τ (nI 2) x) := by
  intro g f d x σ τ rn tr hd hr h hm m1 m2
  rw [perform_C h (by omega) (show 2 < 8 by omega) (show 1 < 4 by omega) (show d ≤ 40 by omega), show bdy 1 2 = 30 from by decide, show upk 1 2 = 0 from by decide]
  refine bt_some ?_
  show BT _ _ _ _ _ (f_X12_hearsAs1 (f_X12_hearsAs_n (f + 1)) τ (nI 2) x)
  unfold f_X12_hearsAs1
  rw [if_neg (by decide), if_neg (by decide), if_pos (by decide)]
  refine bt_beg (b := 30) hm m1 m2 (by omega) ?_
  intro τ1 h1 h2 h3
  have hC := bg_abs h (show rn < 100 by omega) 30
  rw [bd30 (g := g + 6) hC hn hn2]
  refine bt_bnd (hears_0 hn hn2 ho (g + 0) (f + 0) (d + 1) x _ _ _ _ (by omega) (by omega) hC h1 h2 h3) ?_
  intro r σ' τ' rn' tr' q1 q2 q3 q4 q5
  exact bt_ret q1 q2 q3 q4 (by omega)
theorem hears_3 {α : Ab} {n : Nat} (hn : n < (aBK α).length) (hn2 : n < 50) (ho : (aBK α).getD n 0 < 8) : ∀ g f d x σ τ rn tr, d ≤ 34 → rn + 5 ≤ 90 → AbsC (uRN α rn tr) σ → AbsM (uRN α rn tr) τ → τ.1 637 0 = nI ((aBK α).getD n 0) → τ.1 638 0 = nI n → BT α ((aBK α).getD n 0) n (rn + 5) ((spG (g + 10)).1 σ (nI n) (nI 1) (nI 3) x (nI d)) (f_X12_hearsAs_n (f + 3) τ (nI 3) x) := by
  intro g f d x σ τ rn tr hd hr h hm m1 m2
  rw [perform_C h (by omega) (show 3 < 8 by omega) (show 1 < 4 by omega) (show d ≤ 40 by omega), show bdy 1 3 = 41 from by decide, show upk 1 3 = 2 from by decide]
  refine bt_some ?_
  show BT _ _ _ _ _ (f_X12_hearsAs1 (f_X12_hearsAs_n (f + 2)) τ (nI 3) x)
  unfold f_X12_hearsAs1
  rw [if_pos (by decide)]
  unfold f_X12_hearsAs_b10
  refine bt_beg (b := 41) hm m1 m2 (by omega) ?_
  intro τ1 h1 h2 h3
  have hC := bg_abs h (show rn < 100 by omega) 41
  rw [bd41 (g := g + 8) hC hn hn2]
  refine bt_bnd (hears_2 hn hn2 ho (g + 0) (f + 0) (d + 1) (x + 1) _ _ _ _ (by omega) (by omega) hC h1 h2 h3) ?_
  intro r σ' τ' rn' tr' q1 q2 q3 q4 q5
  exact bt_ret q1 q2 q3 q4 (by omega)
theorem hears_4 {α : Ab} {n : Nat} (hn : n < (aBK α).length) (hn2 : n < 50) (ho : (aBK α).getD n 0 < 8) : ∀ g f d x σ τ rn tr, d ≤ 36 → rn + 3 ≤ 90 → AbsC (uRN α rn tr) σ → AbsM (uRN α rn tr) τ → τ.1 637 0 = nI ((aBK α).getD n 0) → τ.1 638 0 = nI n → BT α ((aBK α).getD n 0) n (rn + 3) ((spG (g + 6)).1 σ (nI n) (nI 1) (nI 4) x (nI d)) (f_X12_hearsAs_n (f + 1) τ (nI 4) x) := by
  intro g f d x σ τ rn tr hd hr h hm m1 m2
  rw [perform_C h (by omega) (show 4 < 8 by omega) (show 1 < 4 by omega) (show d ≤ 40 by omega), show bdy 1 4 = 10 from by decide, show upk 1 4 = 0 from by decide]
  refine bt_some ?_
  show BT _ _ _ _ _ (f_X12_hearsAs1 (f_X12_hearsAs_n (f + 0)) τ (nI 4) x)
  unfold f_X12_hearsAs1
  rw [if_neg (by decide), if_neg (by decide), if_neg (by decide), if_neg (by decide)]
  refine bt_beg (b := 10) hm m1 m2 (by omega) ?_
  intro τ1 h1 h2 h3
  have hC := bg_abs h (show rn < 100 by omega) 10
  rw [bd10 (g := g + 4) hC hn hn2]
  rw [h2]
  refine bt_bnd (says_T hn hn2 ho _ ho (g + 0) 3 (d + 1) x _ _ _ _ (by omega) (by omega) hC h1 h2 h3) ?_
  intro r σ' τ' rn' tr' q1 q2 q3 q4 q5
  exact bt_ret q1 q2 q3 q4 (by omega)
theorem hears_5 {α : Ab} {n : Nat} (hn : n < (aBK α).length) (hn2 : n < 50) (ho : (aBK α).getD n 0 < 8) : ∀ g f d x σ τ rn tr, d ≤ 34 → rn + 5 ≤ 90 → AbsC (uRN α rn tr) σ → AbsM (uRN α rn tr) τ → τ.1 637 0 = nI ((aBK α).getD n 0) → τ.1 638 0 = nI n → BT α ((aBK α).getD n 0) n (rn + 5) ((spG (g + 10)).1 σ (nI n) (nI 1) (nI 5) x (nI d)) (f_X12_hearsAs_n (f + 3) τ (nI 5) x) := by
  intro g f d x σ τ rn tr hd hr h hm m1 m2
  rw [perform_C h (by omega) (show 5 < 8 by omega) (show 1 < 4 by omega) (show d ≤ 40 by omega), show bdy 1 5 = 41 from by decide, show upk 1 5 = 2 from by decide]
  refine bt_some ?_
  show BT _ _ _ _ _ (f_X12_hearsAs1 (f_X12_hearsAs_n (f + 2)) τ (nI 5) x)
  unfold f_X12_hearsAs1
  rw [if_neg (by decide), if_pos (by decide)]
  unfold f_X12_hearsAs_b10
  refine bt_beg (b := 41) hm m1 m2 (by omega) ?_
  intro τ1 h1 h2 h3
  have hC := bg_abs h (show rn < 100 by omega) 41
  rw [bd41 (g := g + 8) hC hn hn2]
  refine bt_bnd (hears_2 hn hn2 ho (g + 0) (f + 0) (d + 1) (x + 1) _ _ _ _ (by omega) (by omega) hC h1 h2 h3) ?_
  intro r σ' τ' rn' tr' q1 q2 q3 q4 q5
  exact bt_ret q1 q2 q3 q4 (by omega)
theorem hears_6 {α : Ab} {n : Nat} (hn : n < (aBK α).length) (hn2 : n < 50) (ho : (aBK α).getD n 0 < 8) : ∀ g f d x σ τ rn tr, d ≤ 36 → rn + 3 ≤ 90 → AbsC (uRN α rn tr) σ → AbsM (uRN α rn tr) τ → τ.1 637 0 = nI ((aBK α).getD n 0) → τ.1 638 0 = nI n → BT α ((aBK α).getD n 0) n (rn + 3) ((spG (g + 6)).1 σ (nI n) (nI 1) (nI 6) x (nI d)) (f_X12_hearsAs_n (f + 1) τ (nI 6) x) := by
  intro g f d x σ τ rn tr hd hr h hm m1 m2
  rw [perform_C h (by omega) (show 6 < 8 by omega) (show 1 < 4 by omega) (show d ≤ 40 by omega), show bdy 1 6 = 10 from by decide, show upk 1 6 = 0 from by decide]
  refine bt_some ?_
  show BT _ _ _ _ _ (f_X12_hearsAs1 (f_X12_hearsAs_n (f + 0)) τ (nI 6) x)
  unfold f_X12_hearsAs1
  rw [if_neg (by decide), if_neg (by decide), if_neg (by decide), if_neg (by decide)]
  refine bt_beg (b := 10) hm m1 m2 (by omega) ?_
  intro τ1 h1 h2 h3
  have hC := bg_abs h (show rn < 100 by omega) 10
  rw [bd10 (g := g + 4) hC hn hn2]
  rw [h2]
  refine bt_bnd (says_T hn hn2 ho _ ho (g + 0) 3 (d + 1) x _ _ _ _ (by omega) (by omega) hC h1 h2 h3) ?_
  intro r σ' τ' rn' tr' q1 q2 q3 q4 q5
  exact bt_ret q1 q2 q3 q4 (by omega)
theorem hears_7 {α : Ab} {n : Nat} (hn : n < (aBK α).length) (hn2 : n < 50) (ho : (aBK α).getD n 0 < 8) : ∀ g f d x σ τ rn tr, d ≤ 34 → rn + 8 ≤ 90 → AbsC (uRN α rn tr) σ → AbsM (uRN α rn tr) τ → τ.1 637 0 = nI ((aBK α).getD n 0) → τ.1 638 0 = nI n → BT α ((aBK α).getD n 0) n (rn + 8) ((spG (g + 8)).1 σ (nI n) (nI 1) (nI 7) x (nI d)) (f_X12_hearsAs_n (f + 2) τ (nI 7) x) := by
  intro g f d x σ τ rn tr hd hr h hm m1 m2
  rw [perform_C h (by omega) (show 7 < 8 by omega) (show 1 < 4 by omega) (show d ≤ 40 by omega), show bdy 1 7 = 80 from by decide, show upk 1 7 = 4 from by decide]
  refine bt_some ?_
  show BT _ _ _ _ _ (f_X12_hearsAs1 (f_X12_hearsAs_n (f + 1)) τ (nI 7) x)
  unfold f_X12_hearsAs1
  rw [if_neg (by decide), if_neg (by decide), if_neg (by decide), if_pos (by decide)]
  refine bt_beg (b := 80) hm m1 m2 (by omega) ?_
  intro τ1 h1 h2 h3
  have hC := bg_abs h (show rn < 100 by omega) 80
  rw [bd80 (g := g + 6) hC hn hn2]
  refine bt_bnd (hears_4 hn hn2 ho (g + 0) (f + 0) (d + 1) x _ _ _ _ (by omega) (by omega) hC h1 h2 h3) ?_
  intro r σ' τ' rn' tr' q1 q2 q3 q4 q5
  rw [q3]
  refine bt_bnd (asks_T hn hn2 ho _ ho (g + 0) 3 (d + 1) 2 _ _ _ _ (by omega) (by omega) q1 q2 q3 q4) ?_
  intro r2 σ2 τ2 rn2 tr2 w1 w2 w3 w4 w5
  exact bt_ret w1 w2 w3 w4 (by omega)
theorem hears_T {α : Ab} {n : Nat} (hn : n < (aBK α).length) (hn2 : n < 50) (ho : (aBK α).getD n 0 < 8) : ∀ k, k < 8 → ∀ g f d x σ τ rn tr, d ≤ 34 → rn + 8 ≤ 90 → AbsC (uRN α rn tr) σ → AbsM (uRN α rn tr) τ → τ.1 637 0 = nI ((aBK α).getD n 0) → τ.1 638 0 = nI n → BT α ((aBK α).getD n 0) n (rn + 8) ((spG (g + 10)).1 σ (nI n) (nI 1) (nI k) x (nI d)) (f_X12_hearsAs_n (f + 3) τ (nI k) x) := by
  intro k hk g f d x σ τ rn tr hd hr h hm m1 m2
  have up_ : ∀ {c : Nat} {o1 o2 : Option (Int32 × St)}, c ≤ rn + 8 → BT α ((aBK α).getD n 0) n c o1 o2 → BT α ((aBK α).getD n 0) n (rn + 8) o1 o2 := by
    intro c o1 o2 hc hb
    obtain ⟨r, σ', τ', rn', tr', e1, e2, e3, e4, e5, e6, e7⟩ := hb
    exact ⟨r, σ', τ', rn', tr', e1, e2, e3, e4, e5, e6, by omega⟩
  rcases (show k = 0 ∨ k = 1 ∨ k = 2 ∨ k = 3 ∨ k = 4 ∨ k = 5 ∨ k = 6 ∨ k = 7 by omega) with e | e | e | e | e | e | e | e
  · subst e
    exact up_ (by omega) (hears_0 hn hn2 ho (g + 4) (f + 2) d x σ τ rn tr (by omega) (by omega) h hm m1 m2)
  · subst e
    exact up_ (by omega) (hears_1 hn hn2 ho (g + 4) (f + 2) d x σ τ rn tr (by omega) (by omega) h hm m1 m2)
  · subst e
    exact up_ (by omega) (hears_2 hn hn2 ho (g + 2) (f + 1) d x σ τ rn tr (by omega) (by omega) h hm m1 m2)
  · subst e
    exact up_ (by omega) (hears_3 hn hn2 ho (g + 0) (f + 0) d x σ τ rn tr (by omega) (by omega) h hm m1 m2)
  · subst e
    exact up_ (by omega) (hears_4 hn hn2 ho (g + 4) (f + 2) d x σ τ rn tr (by omega) (by omega) h hm m1 m2)
  · subst e
    exact up_ (by omega) (hears_5 hn hn2 ho (g + 0) (f + 0) d x σ τ rn tr (by omega) (by omega) h hm m1 m2)
  · subst e
    exact up_ (by omega) (hears_6 hn hn2 ho (g + 4) (f + 2) d x σ τ rn tr (by omega) (by omega) h hm m1 m2)
  · subst e
    exact up_ (by omega) (hears_7 hn hn2 ho (g + 2) (f + 1) d x σ τ rn tr (by omega) (by omega) h hm m1 m2)
theorem tells_0 {α : Ab} {n : Nat} (hn : n < (aBK α).length) (hn2 : n < 50) (ho : (aBK α).getD n 0 < 8) : ∀ g f d x σ τ rn tr, d ≤ 33 → rn + 13 ≤ 90 → AbsC (uRN α rn tr) σ → AbsM (uRN α rn tr) τ → τ.1 637 0 = nI ((aBK α).getD n 0) → τ.1 638 0 = nI n → BT α ((aBK α).getD n 0) n (rn + 13) ((spG (g + 12)).1 σ (nI n) (nI 3) (nI 0) x (nI d)) (f_X12_tellsAs_n (f + 1) τ (nI 0) x) := by
  intro g f d x σ τ rn tr hd hr h hm m1 m2
  rw [perform_C h (by omega) (show 0 < 8 by omega) (show 3 < 4 by omega) (show d ≤ 40 by omega), show bdy 3 0 = 2 from by decide, show upk 3 0 = 0 from by decide]
  refine bt_some ?_
  show BT _ _ _ _ _ (f_X12_tellsAs1 (f_X12_tellsAs_n (f + 0)) τ (nI 0) x)
  unfold f_X12_tellsAs1
  rw [if_neg (by decide), if_neg (by decide)]
  refine bt_beg (b := 2) hm m1 m2 (by omega) ?_
  intro τ1 h1 h2 h3
  have hC := bg_abs h (show rn < 100 by omega) 2
  rw [bd2 (g := g + 10) hC hn hn2]
  rw [h2]
  refine bt_bnd (hears_T hn hn2 ho _ ho (g + 0) 2 (d + 1) x _ _ _ _ (by omega) (by omega) hC h1 h2 h3) ?_
  intro r σ' τ' rn' tr' q1 q2 q3 q4 q5
  rw [q3]
  refine bt_bnd (asks_T hn hn2 ho _ ho (g + 4) 3 (d + 1) 1 _ _ _ _ (by omega) (by omega) q1 q2 q3 q4) ?_
  intro r2 σ2 τ2 rn2 tr2 w1 w2 w3 w4 w5
  exact bt_ret w1 w2 w3 w4 (by omega)
theorem tells_1 {α : Ab} {n : Nat} (hn : n < (aBK α).length) (hn2 : n < 50) (ho : (aBK α).getD n 0 < 8) : ∀ g f d x σ τ rn tr, d ≤ 33 → rn + 13 ≤ 90 → AbsC (uRN α rn tr) σ → AbsM (uRN α rn tr) τ → τ.1 637 0 = nI ((aBK α).getD n 0) → τ.1 638 0 = nI n → BT α ((aBK α).getD n 0) n (rn + 13) ((spG (g + 12)).1 σ (nI n) (nI 3) (nI 1) x (nI d)) (f_X12_tellsAs_n (f + 1) τ (nI 1) x) := by
  intro g f d x σ τ rn tr hd hr h hm m1 m2
  rw [perform_C h (by omega) (show 1 < 8 by omega) (show 3 < 4 by omega) (show d ≤ 40 by omega), show bdy 3 1 = 2 from by decide, show upk 3 1 = 0 from by decide]
  refine bt_some ?_
  show BT _ _ _ _ _ (f_X12_tellsAs1 (f_X12_tellsAs_n (f + 0)) τ (nI 1) x)
  unfold f_X12_tellsAs1
  rw [if_neg (by decide), if_neg (by decide)]
  refine bt_beg (b := 2) hm m1 m2 (by omega) ?_
  intro τ1 h1 h2 h3
  have hC := bg_abs h (show rn < 100 by omega) 2
  rw [bd2 (g := g + 10) hC hn hn2]
  rw [h2]
  refine bt_bnd (hears_T hn hn2 ho _ ho (g + 0) 2 (d + 1) x _ _ _ _ (by omega) (by omega) hC h1 h2 h3) ?_
  intro r σ' τ' rn' tr' q1 q2 q3 q4 q5
  rw [q3]
  refine bt_bnd (asks_T hn hn2 ho _ ho (g + 4) 3 (d + 1) 1 _ _ _ _ (by omega) (by omega) q1 q2 q3 q4) ?_
  intro r2 σ2 τ2 rn2 tr2 w1 w2 w3 w4 w5
  exact bt_ret w1 w2 w3 w4 (by omega)
theorem tells_2 {α : Ab} {n : Nat} (hn : n < (aBK α).length) (hn2 : n < 50) (ho : (aBK α).getD n 0 < 8) : ∀ g f d x σ τ rn tr, d ≤ 33 → rn + 13 ≤ 90 → AbsC (uRN α rn tr) σ → AbsM (uRN α rn tr) τ → τ.1 637 0 = nI ((aBK α).getD n 0) → τ.1 638 0 = nI n → BT α ((aBK α).getD n 0) n (rn + 13) ((spG (g + 12)).1 σ (nI n) (nI 3) (nI 2) x (nI d)) (f_X12_tellsAs_n (f + 1) τ (nI 2) x) := by
  intro g f d x σ τ rn tr hd hr h hm m1 m2
  rw [perform_C h (by omega) (show 2 < 8 by omega) (show 3 < 4 by omega) (show d ≤ 40 by omega), show bdy 3 2 = 2 from by decide, show upk 3 2 = 0 from by decide]
  refine bt_some ?_
  show BT _ _ _ _ _ (f_X12_tellsAs1 (f_X12_tellsAs_n (f + 0)) τ (nI 2) x)
  unfold f_X12_tellsAs1
  rw [if_neg (by decide), if_neg (by decide)]
  refine bt_beg (b := 2) hm m1 m2 (by omega) ?_
  intro τ1 h1 h2 h3
  have hC := bg_abs h (show rn < 100 by omega) 2
  rw [bd2 (g := g + 10) hC hn hn2]
  rw [h2]
  refine bt_bnd (hears_T hn hn2 ho _ ho (g + 0) 2 (d + 1) x _ _ _ _ (by omega) (by omega) hC h1 h2 h3) ?_
  intro r σ' τ' rn' tr' q1 q2 q3 q4 q5
  rw [q3]
  refine bt_bnd (asks_T hn hn2 ho _ ho (g + 4) 3 (d + 1) 1 _ _ _ _ (by omega) (by omega) q1 q2 q3 q4) ?_
  intro r2 σ2 τ2 rn2 tr2 w1 w2 w3 w4 w5
  exact bt_ret w1 w2 w3 w4 (by omega)
theorem tells_3 {α : Ab} {n : Nat} (hn : n < (aBK α).length) (hn2 : n < 50) (ho : (aBK α).getD n 0 < 8) : ∀ g f d x σ τ rn tr, d ≤ 33 → rn + 13 ≤ 90 → AbsC (uRN α rn tr) σ → AbsM (uRN α rn tr) τ → τ.1 637 0 = nI ((aBK α).getD n 0) → τ.1 638 0 = nI n → BT α ((aBK α).getD n 0) n (rn + 13) ((spG (g + 12)).1 σ (nI n) (nI 3) (nI 3) x (nI d)) (f_X12_tellsAs_n (f + 1) τ (nI 3) x) := by
  intro g f d x σ τ rn tr hd hr h hm m1 m2
  rw [perform_C h (by omega) (show 3 < 8 by omega) (show 3 < 4 by omega) (show d ≤ 40 by omega), show bdy 3 3 = 2 from by decide, show upk 3 3 = 0 from by decide]
  refine bt_some ?_
  show BT _ _ _ _ _ (f_X12_tellsAs1 (f_X12_tellsAs_n (f + 0)) τ (nI 3) x)
  unfold f_X12_tellsAs1
  rw [if_neg (by decide), if_neg (by decide)]
  refine bt_beg (b := 2) hm m1 m2 (by omega) ?_
  intro τ1 h1 h2 h3
  have hC := bg_abs h (show rn < 100 by omega) 2
  rw [bd2 (g := g + 10) hC hn hn2]
  rw [h2]
  refine bt_bnd (hears_T hn hn2 ho _ ho (g + 0) 2 (d + 1) x _ _ _ _ (by omega) (by omega) hC h1 h2 h3) ?_
  intro r σ' τ' rn' tr' q1 q2 q3 q4 q5
  rw [q3]
  refine bt_bnd (asks_T hn hn2 ho _ ho (g + 4) 3 (d + 1) 1 _ _ _ _ (by omega) (by omega) q1 q2 q3 q4) ?_
  intro r2 σ2 τ2 rn2 tr2 w1 w2 w3 w4 w5
  exact bt_ret w1 w2 w3 w4 (by omega)
theorem tells_4 {α : Ab} {n : Nat} (hn : n < (aBK α).length) (hn2 : n < 50) (ho : (aBK α).getD n 0 < 8) : ∀ g f d x σ τ rn tr, d ≤ 33 → rn + 13 ≤ 90 → AbsC (uRN α rn tr) σ → AbsM (uRN α rn tr) τ → τ.1 637 0 = nI ((aBK α).getD n 0) → τ.1 638 0 = nI n → BT α ((aBK α).getD n 0) n (rn + 13) ((spG (g + 12)).1 σ (nI n) (nI 3) (nI 4) x (nI d)) (f_X12_tellsAs_n (f + 1) τ (nI 4) x) := by
  intro g f d x σ τ rn tr hd hr h hm m1 m2
  rw [perform_C h (by omega) (show 4 < 8 by omega) (show 3 < 4 by omega) (show d ≤ 40 by omega), show bdy 3 4 = 2 from by decide, show upk 3 4 = 0 from by decide]
  refine bt_some ?_
  show BT _ _ _ _ _ (f_X12_tellsAs1 (f_X12_tellsAs_n (f + 0)) τ (nI 4) x)
  unfold f_X12_tellsAs1
  rw [if_neg (by decide), if_neg (by decide)]
  refine bt_beg (b := 2) hm m1 m2 (by omega) ?_
  intro τ1 h1 h2 h3
  have hC := bg_abs h (show rn < 100 by omega) 2
  rw [bd2 (g := g + 10) hC hn hn2]
  rw [h2]
  refine bt_bnd (hears_T hn hn2 ho _ ho (g + 0) 2 (d + 1) x _ _ _ _ (by omega) (by omega) hC h1 h2 h3) ?_
  intro r σ' τ' rn' tr' q1 q2 q3 q4 q5
  rw [q3]
  refine bt_bnd (asks_T hn hn2 ho _ ho (g + 4) 3 (d + 1) 1 _ _ _ _ (by omega) (by omega) q1 q2 q3 q4) ?_
  intro r2 σ2 τ2 rn2 tr2 w1 w2 w3 w4 w5
  exact bt_ret w1 w2 w3 w4 (by omega)
theorem tells_5 {α : Ab} {n : Nat} (hn : n < (aBK α).length) (hn2 : n < 50) (ho : (aBK α).getD n 0 < 8) : ∀ g f d x σ τ rn tr, d ≤ 32 → rn + 14 ≤ 90 → AbsC (uRN α rn tr) σ → AbsM (uRN α rn tr) τ → τ.1 637 0 = nI ((aBK α).getD n 0) → τ.1 638 0 = nI n → BT α ((aBK α).getD n 0) n (rn + 14) ((spG (g + 14)).1 σ (nI n) (nI 3) (nI 5) x (nI d)) (f_X12_tellsAs_n (f + 2) τ (nI 5) x) := by
  intro g f d x σ τ rn tr hd hr h hm m1 m2
  rw [perform_C h (by omega) (show 5 < 8 by omega) (show 3 < 4 by omega) (show d ≤ 40 by omega), show bdy 3 5 = 60 from by decide, show upk 3 5 = 3 from by decide]
  refine bt_some ?_
  show BT _ _ _ _ _ (f_X12_tellsAs1 (f_X12_tellsAs_n (f + 1)) τ (nI 5) x)
  unfold f_X12_tellsAs1
  rw [if_pos (by decide)]
  refine bt_beg (b := 60) hm m1 m2 (by omega) ?_
  intro τ1 h1 h2 h3
  have hC := bg_abs h (show rn < 100 by omega) 60
  rw [bd60 (g := g + 12) hC hn hn2]
  refine bt_bnd (tells_3 hn hn2 ho (g + 0) (f + 0) (d + 1) x _ _ _ _ (by omega) (by omega) hC h1 h2 h3) ?_
  intro r σ' τ' rn' tr' q1 q2 q3 q4 q5
  exact bt_ret q1 q2 q3 q4 (by omega)
theorem tells_6 {α : Ab} {n : Nat} (hn : n < (aBK α).length) (hn2 : n < 50) (ho : (aBK α).getD n 0 < 8) : ∀ g f d x σ τ rn tr, d ≤ 33 → rn + 13 ≤ 90 → AbsC (uRN α rn tr) σ → AbsM (uRN α rn tr) τ → τ.1 637 0 = nI ((aBK α).getD n 0) → τ.1 638 0 = nI n → BT α ((aBK α).getD n 0) n (rn + 13) ((spG (g + 12)).1 σ (nI n) (nI 3) (nI 6) x (nI d)) (f_X12_tellsAs_n (f + 1) τ (nI 6) x) := by
  intro g f d x σ τ rn tr hd hr h hm m1 m2
  rw [perform_C h (by omega) (show 6 < 8 by omega) (show 3 < 4 by omega) (show d ≤ 40 by omega), show bdy 3 6 = 2 from by decide, show upk 3 6 = 0 from by decide]
  refine bt_some ?_
  show BT _ _ _ _ _ (f_X12_tellsAs1 (f_X12_tellsAs_n (f + 0)) τ (nI 6) x)
  unfold f_X12_tellsAs1
  rw [if_neg (by decide), if_neg (by decide)]
  refine bt_beg (b := 2) hm m1 m2 (by omega) ?_
  intro τ1 h1 h2 h3
  have hC := bg_abs h (show rn < 100 by omega) 2
  rw [bd2 (g := g + 10) hC hn hn2]
  rw [h2]
  refine bt_bnd (hears_T hn hn2 ho _ ho (g + 0) 2 (d + 1) x _ _ _ _ (by omega) (by omega) hC h1 h2 h3) ?_
  intro r σ' τ' rn' tr' q1 q2 q3 q4 q5
  rw [q3]
  refine bt_bnd (asks_T hn hn2 ho _ ho (g + 4) 3 (d + 1) 1 _ _ _ _ (by omega) (by omega) q1 q2 q3 q4) ?_
  intro r2 σ2 τ2 rn2 tr2 w1 w2 w3 w4 w5
  exact bt_ret w1 w2 w3 w4 (by omega)
theorem tells_7 {α : Ab} {n : Nat} (hn : n < (aBK α).length) (hn2 : n < 50) (ho : (aBK α).getD n 0 < 8) : ∀ g f d x σ τ rn tr, d ≤ 32 → rn + 14 ≤ 90 → AbsC (uRN α rn tr) σ → AbsM (uRN α rn tr) τ → τ.1 637 0 = nI ((aBK α).getD n 0) → τ.1 638 0 = nI n → BT α ((aBK α).getD n 0) n (rn + 14) ((spG (g + 14)).1 σ (nI n) (nI 3) (nI 7) x (nI d)) (f_X12_tellsAs_n (f + 2) τ (nI 7) x) := by
  intro g f d x σ τ rn tr hd hr h hm m1 m2
  rw [perform_C h (by omega) (show 7 < 8 by omega) (show 3 < 4 by omega) (show d ≤ 40 by omega), show bdy 3 7 = 81 from by decide, show upk 3 7 = 4 from by decide]
  refine bt_some ?_
  show BT _ _ _ _ _ (f_X12_tellsAs1 (f_X12_tellsAs_n (f + 1)) τ (nI 7) x)
  unfold f_X12_tellsAs1
  rw [if_neg (by decide), if_pos (by decide)]
  refine bt_beg (b := 81) hm m1 m2 (by omega) ?_
  intro τ1 h1 h2 h3
  have hC := bg_abs h (show rn < 100 by omega) 81
  rw [bd81 (g := g + 12) hC hn hn2]
  refine bt_bnd (tells_4 hn hn2 ho (g + 0) (f + 0) (d + 1) x _ _ _ _ (by omega) (by omega) hC h1 h2 h3) ?_
  intro r σ' τ' rn' tr' q1 q2 q3 q4 q5
  exact bt_ret q1 q2 q3 q4 (by omega)
theorem tells_T {α : Ab} {n : Nat} (hn : n < (aBK α).length) (hn2 : n < 50) (ho : (aBK α).getD n 0 < 8) : ∀ k, k < 8 → ∀ g f d x σ τ rn tr, d ≤ 32 → rn + 14 ≤ 90 → AbsC (uRN α rn tr) σ → AbsM (uRN α rn tr) τ → τ.1 637 0 = nI ((aBK α).getD n 0) → τ.1 638 0 = nI n → BT α ((aBK α).getD n 0) n (rn + 14) ((spG (g + 14)).1 σ (nI n) (nI 3) (nI k) x (nI d)) (f_X12_tellsAs_n (f + 2) τ (nI k) x) := by
  intro k hk g f d x σ τ rn tr hd hr h hm m1 m2
  have up_ : ∀ {c : Nat} {o1 o2 : Option (Int32 × St)}, c ≤ rn + 14 → BT α ((aBK α).getD n 0) n c o1 o2 → BT α ((aBK α).getD n 0) n (rn + 14) o1 o2 := by
    intro c o1 o2 hc hb
    obtain ⟨r, σ', τ', rn', tr', e1, e2, e3, e4, e5, e6, e7⟩ := hb
    exact ⟨r, σ', τ', rn', tr', e1, e2, e3, e4, e5, e6, by omega⟩
  rcases (show k = 0 ∨ k = 1 ∨ k = 2 ∨ k = 3 ∨ k = 4 ∨ k = 5 ∨ k = 6 ∨ k = 7 by omega) with e | e | e | e | e | e | e | e
  · subst e
    exact up_ (by omega) (tells_0 hn hn2 ho (g + 2) (f + 1) d x σ τ rn tr (by omega) (by omega) h hm m1 m2)
  · subst e
    exact up_ (by omega) (tells_1 hn hn2 ho (g + 2) (f + 1) d x σ τ rn tr (by omega) (by omega) h hm m1 m2)
  · subst e
    exact up_ (by omega) (tells_2 hn hn2 ho (g + 2) (f + 1) d x σ τ rn tr (by omega) (by omega) h hm m1 m2)
  · subst e
    exact up_ (by omega) (tells_3 hn hn2 ho (g + 2) (f + 1) d x σ τ rn tr (by omega) (by omega) h hm m1 m2)
  · subst e
    exact up_ (by omega) (tells_4 hn hn2 ho (g + 2) (f + 1) d x σ τ rn tr (by omega) (by omega) h hm m1 m2)
  · subst e
    exact up_ (by omega) (tells_5 hn hn2 ho (g + 0) (f + 0) d x σ τ rn tr (by omega) (by omega) h hm m1 m2)
  · subst e
    exact up_ (by omega) (tells_6 hn hn2 ho (g + 2) (f + 1) d x σ τ rn tr (by omega) (by omega) h hm m1 m2)
  · subst e
    exact up_ (by omega) (tells_7 hn hn2 ho (g + 0) (f + 0) d x σ τ rn tr (by omega) (by omega) h hm m1 m2)
theorem okA_RN {k : Nat} {α : Ab} {rn : Nat} {tr : Nat → Nat} (h : OkA k α) (hr : rn ≤ 100) : OkA k (uRN α rn tr) := ⟨h.1, h.2.1, h.2.2.1, h.2.2.2.1, h.2.2.2.2.1, h.2.2.2.2.2.1, ⟨(oSp h).1, (oSp h).2.1, hr⟩, h.2.2.2.2.2.2.2⟩
theorem st35 (k : Nat) : Step_35 (Rel k) (Rel (k + 1)) := by
  intro σ τ p q x hr
  obtain ⟨α, ho, hc, hm⟩ := hr
  have h50 := (oSp ho).1
  have hc0 : AbsC (uRN α 0 (aTR α)) (sI σ 503 0 0) := absC_RN (rn := aRN α) (tr := aTR α) hc (fun f o hf => if_neg (fun z => hf z.1)) (fun _ _ _ => rfl) rfl ⟨rfl, fun i hi _ => absurd hi (Nat.not_lt_zero i)⟩
  have hm0 : AbsM (uRN α 0 (aTR α)) (sI τ 636 0 0) := absM_RN (rn := aRN α) (tr := aTR α) hm (fun f o hf _ _ => if_neg (fun z => hf z.1)) (fun _ _ _ => rfl) rfl ⟨rfl, fun i hi _ => absurd hi (Nat.not_lt_zero i)⟩
  have ho0 : OkA k (uRN α 0 (aTR α)) := okA_RN ho (by omega)
  unfold f_X11_act f_X12_act
  rcases body_both ho0 hc0 hm0 p with ⟨n, hn, hn2, e, h1, h2⟩ | ⟨h1, h2⟩
  · rw [h1, h2, bnd2_e, bnd2_e, if_neg one_n0, if_neg one_n0]
    subst e
    have hn' : n < (aBK α).length := hn
    have hok : (aBK α).getD n 0 < 8 := (oSp ho).2.1 n
    have ek : (sI σ 503 0 0).2.2.1 500 0 n = nI ((aBK α).getD n 0) := kinds_C hc0 hn'
    have ek2 : (sI τ 636 0 0).2.2.1 634 0 n = nI ((aBK α).getD n 0) := (mSp hm0).2.1 n hn'
    rw [chk_in hn2 (by omega), chk_in hn2 (by omega), nI_clamp (by omega), ek, ek2, bnd_e]
    have hm1 : AbsM (uRN α 0 (aTR α)) (sI (sI (sI τ 636 0 0) 637 0 (nI ((aBK α).getD n 0))) 638 0 (nI n)) := absM_RN hm0 (fun f o _ h1 h2 => (if_neg (fun z => h2 z.1)).trans (if_neg (fun z => h1 z.1))) (fun _ _ _ => rfl) rfl ⟨rfl, fun i hi _ => absurd hi (Nat.not_lt_zero i)⟩
    have m1 : (sI (sI (sI τ 636 0 0) 637 0 (nI ((aBK α).getD n 0))) 638 0 (nI n)).1 637 0 = nI ((aBK α).getD n 0) := rfl
    have m2 : (sI (sI (sI τ 636 0 0) 637 0 (nI ((aBK α).getD n 0))) 638 0 (nI n)).1 638 0 = nI n := rfl
    have fin : ∀ {c : Nat} {o1 o2 : Option (Int32 × St)}, c ≤ 100 → BT α ((aBK α).getD n 0) n c o1 o2 → ∃ r σ' τ', bnd2 o1 (fun r9 σ10 => some (r9, σ10)) = some (r, σ') ∧ bnd2 o2 (fun r9 σ10 => some (r9, σ10)) = some (r, τ') ∧ Rel (k + 1) σ' τ' := by
      intro c o1 o2 hcc hb
      obtain ⟨r, σ', τ', rn', tr', e1, e2, e3, e4, e5, e6, e7⟩ := hb
      rw [e1, e2]
      exact ⟨r, σ', τ', rfl, rfl, uRN α rn' tr', okA_mono (okA_RN ho (by omega)), e3, e4⟩
    have hR0 : Rel (k + 1) (sI σ 503 0 0) (sI (sI (sI τ 636 0 0) 637 0 (nI ((aBK α).getD n 0))) 638 0 (nI n)) := ⟨uRN α 0 (aTR α), okA_mono ho0, hc0, hm1⟩
    rw [m1]
    by_cases q0 : q < 0
    · rw [if_pos q0, if_neg (fun z => absurd q0 (by rw [z]; decide)), if_neg (fun z => absurd q0 (by rw [z]; decide)), if_neg (fun z => absurd q0 (by rw [z]; decide)), if_neg (fun z => absurd q0 (by rw [z]; decide))]
      exact ⟨_, _, _, rfl, rfl, hR0⟩
    · rw [if_neg q0]
      obtain ⟨j, hj, ej⟩ := nI_of q0
      by_cases q4 : q < 4
      · rw [if_pos q4]
        rw [ej] at q4
        have hj4 : j < 4 := (nI_ltI (b := 4) hj (by omega)).mp q4
        rcases (show j = 0 ∨ j = 1 ∨ j = 2 ∨ j = 3 by omega) with y | y | y | y
        · rw [ej, y, if_pos (show nI 0 = 0 from rfl)]
          exact fin (by omega) (says_T hn' hn2 hok _ hok 56 3 0 x _ _ 0 _ (by omega) (by omega) hc0 hm1 m1 m2)
        · rw [ej, y, if_neg (by decide), if_pos (show nI 1 = 1 from rfl)]
          exact fin (by omega) (hears_T hn' hn2 hok _ hok 50 2 0 x _ _ 0 _ (by omega) (by omega) hc0 hm1 m1 m2)
        · rw [ej, y, if_neg (by decide), if_neg (by decide), if_pos (show nI 2 = 2 from rfl)]
          exact fin (by omega) (asks_T hn' hn2 hok _ hok 54 3 0 x _ _ 0 _ (by omega) (by omega) hc0 hm1 m1 m2)
        · rw [ej, y, if_neg (by decide), if_neg (by decide), if_neg (by decide), if_pos (show nI 3 = 3 from rfl)]
          exact fin (by omega) (tells_T hn' hn2 hok _ hok 46 3 0 x _ _ 0 _ (by omega) (by omega) hc0 hm1 m1 m2)
      · rw [if_neg q4, if_neg (fun z => q4 (by rw [z]; decide)), if_neg (fun z => q4 (by rw [z]; decide)), if_neg (fun z => q4 (by rw [z]; decide)), if_neg (fun z => q4 (by rw [z]; decide))]
        exact ⟨_, _, _, rfl, rfl, hR0⟩
  · rw [h1, h2]
    exact ⟨_, _, _, rfl, rfl, uRN α 0 (aTR α), okA_mono ho0, hc0, hm0⟩
