/-! told anew: the class -/
theorem wsum_of {α β : Ab} {s k : Nat} (h : ∀ x, wv β s x k = wv α s x k) : (∀ x, wt β s x k = wt α s x k) ∧ ∀ n, wsum β s k n = wsum α s k n := by
  have h1 : ∀ x, wt β s x k = wt α s x k := by
    intro x
    unfold wt
    rw [h]
  refine ⟨h1, fun n => ?_⟩
  induction n with
  | zero => rfl
  | succ n ih => rw [wsum, wsum, ih, h1]
theorem cache_mk {α β : Ab} {w t t' : Nat → Int32} (hc : CacheC α w t) (h : ∀ k s, k < 10 → s < 12 → t' (12 * k + s) = -1 ∨ (t' (12 * k + s) = t (12 * k + s) ∧ ∀ x, wv β s x k = wv α s x k)) : CacheC β w t' := by
  intro k s hk hs
  rcases h k s hk hs with z | ⟨z1, z2⟩
  · exact Or.inl z
  · rcases hc k s hk hs with y | ⟨y1, y2⟩
    · exact Or.inl (z1.trans y)
    · obtain ⟨e1, e2⟩ := wsum_of z2
      refine Or.inr ⟨z1.trans (y1.trans (by rw [e2])), fun x hx => ?_⟩
      rw [e1]
      exact y2 x hx
theorem liken_loop {a b : Nat} (ha : a < 12) (hb : b < 12) : ∀ m i f σ, i + m = 10 → m < f → ∃ T, f_X5_likenTo_b27 f σ (nI a) (nI b) (nI i) = some (sA σ 257 0 T) ∧ ∀ k s, k < 10 → s < 12 → T (12 * k + s) = if i ≤ k ∧ (s = a ∨ s = b) then -1 else σ.2.2.1 257 0 (12 * k + s) := by
  intro m
  induction m with
  | zero =>
    intro i f σ hi hf
    obtain ⟨f, rfl⟩ : ∃ x, f = x + 1 := ⟨f - 1, by omega⟩
    rw [f_X5_likenTo_b27, if_pos (show (9 : Int32) < nI i from nI_lt (a := 9) (by omega) (by omega))]
    exact ⟨σ.2.2.1 257 0, by rw [sA_self], fun k s hk hs => by rw [if_neg (by omega)]⟩
  | succ m ih =>
    intro i f σ hi hf
    obtain ⟨f, rfl⟩ : ∃ x, f = x + 1 := ⟨f - 1, by omega⟩
    rw [f_X5_likenTo_b27, if_neg (show ¬ (9 : Int32) < nI i from fun z => by
      have := (nI_ltI (a := 9) (by omega) (by omega)).mp z
      omega)]
    simp only [ix12, chk_in (show 12 * i + a < 120 by omega) (show 120 ≤ 2000000000 by omega), chk_in (show 12 * i + b < 120 by omega) (show 120 ≤ 2000000000 by omega), bnd_e, nI_p1, sA_sA]
    simp only [ix12, nI_clamp (show 12 * i + a < 2 ^ 31 by omega), nI_clamp (show 12 * i + b < 2 ^ 31 by omega), bnd_e, nI_p1, sA_sA]
    obtain ⟨T, h1, h2⟩ := ih (i + 1) f (sA σ 257 0 (upd (upd (σ.2.2.1 257 0) (12 * i + a) (-1)) (12 * i + b) (-1))) (by omega) (by omega)
    rw [sA_sA] at h1
    refine ⟨T, h1, fun k s hk hs => ?_⟩
    rw [h2 k s hk hs]
    show (if i + 1 ≤ k ∧ (s = a ∨ s = b) then (-1 : Int32) else upd (upd (σ.2.2.1 257 0) (12 * i + a) (-1)) (12 * i + b) (-1) (12 * k + s)) = if i ≤ k ∧ (s = a ∨ s = b) then -1 else σ.2.2.1 257 0 (12 * k + s)
    by_cases e1 : 12 * k + s = 12 * i + b
    · rw [if_neg (by omega), if_pos (by omega), e1, pk_us]
    · by_cases e2 : 12 * k + s = 12 * i + a
      · rw [if_neg (by omega), if_pos (by omega), e2, pk_un (by omega), pk_us]
      · rw [pk_un e1, pk_un e2]
        by_cases e3 : i + 1 ≤ k ∧ (s = a ∨ s = b)
        · rw [if_pos e3, if_pos (by omega)]
        · rw [if_neg e3, if_neg (by omega)]
theorem wv_set1 {α : Ab} {num v s x k : Nat} (h1 : s ≠ num / 100) (h2 : s ≠ num % 100) : wv (setV α num 1 v) s x k = wv α s x k := by
  have e : aAL (setV α num 1 v) s x = aAL α s x := by
    show (if (s = num / 100 ∧ x = num % 100) ∨ (s = num % 100 ∧ x = num / 100) then v else aAL α s x) = aAL α s x
    rw [if_neg (by omega)]
  have e1 : aLW (setV α num 1 v) = aLW α := rfl
  have e2 : aNO (setV α num 1 v) = aNO α := rfl
  unfold wv
  rw [e, e1, e2]
theorem tell_C {k : Nat} {α : Ab} {σ : St} (ho : OkA k α) (h : AbsC α σ) {num w v : Nat} (hw : OkW (aN α).length num w) : ∃ σ', f_X11_tellAnew σ (nI num) (nI w) (nI v) = some σ' ∧ AbsC (setV α num w v) σ' ∧ σ'.1 4 0 = σ.1 4 0 ∧ σ'.1 5 0 = σ.1 5 0 := by
  have hl := (oNm ho).1
  unfold f_X11_tellAnew
  rcases hw with hw | hw | hw | hw | hw
  · obtain ⟨rfl, h2⟩ := hw
    rw [if_pos (show nI 0 = 0 from rfl), chk_in (show num < 10 by omega) (by omega), nI_clamp (by omega), bnd_e]
    refine ⟨_, rfl, ⟨⟨h.1.1, fun n hn => ⟨(h.1.2 n hn).1, ?_, (h.1.2 n hn).2.2⟩⟩, h.2.1, cache_cong rfl rfl rfl h.2.2.1, law_cong rfl (fun _ => rfl) (fun _ => rfl) h.2.2.2.1, h.2.2.2.2⟩, rfl, rfl⟩
    show upd (σ.2.2.1 302 0) num (nI v) n = nI (if n = num then v else aK α n)
    by_cases e : n = num
    · rw [if_pos e, e, pk_us]
    · rw [if_neg e, pk_un e]; exact (h.1.2 n hn).2.1
  · obtain ⟨rfl, h2, h3, h4⟩ := hw
    obtain ⟨e1, e2⟩ := d100 (show num < 1200 by omega)
    rw [if_neg (show ¬ nI 1 = 0 by decide), if_pos (show nI 1 = 1 by decide), e2, e1]
    unfold f_X5_likenTo
    rw [ix12, ix12]
    simp only [chk_in (show 12 * (num / 100) + num % 100 < 144 by omega) (show 144 ≤ 2000000000 by omega), chk_in (show 12 * (num % 100) + num / 100 < 144 by omega) (show 144 ≤ 2000000000 by omega), bnd_e, sA_sA]
    simp only [nI_clamp (show 12 * (num / 100) + num % 100 < 2 ^ 31 by omega), nI_clamp (show 12 * (num % 100) + num / 100 < 2 ^ 31 by omega), bnd_e, sA_sA]
    obtain ⟨T, t1, t2⟩ := liken_loop h2 h3 10 0 256 (sA σ 250 0 (upd ((sA σ 250 0 (upd (σ.2.2.1 250 0) (12 * (num / 100) + num % 100) (nI v))).2.2.1 250 0) (12 * (num % 100) + num / 100) (nI v))) (by omega) (by omega)
    have t1' : f_X5_likenTo_b27 256 (sA σ 250 0 (upd ((sA σ 250 0 (upd (σ.2.2.1 250 0) (12 * (num / 100) + num % 100) (nI v))).2.2.1 250 0) (12 * (num % 100) + num / 100) (nI v))) (nI (num / 100)) (nI (num % 100)) (0 : Int32) = _ := t1
    rw [t1', bnd1_e]
    refine ⟨_, rfl, ⟨h.1, ⟨fun s x hs hx => ?_, h.2.1.2⟩, cache_mk h.2.2.1 (fun k s hk hs => ?_), law_cong rfl (fun _ => rfl) (fun _ => rfl) h.2.2.2.1, h.2.2.2.2⟩, rfl, rfl⟩
    · show upd (upd (σ.2.2.1 250 0) (12 * (num / 100) + num % 100) (nI v)) (12 * (num % 100) + num / 100) (nI v) (12 * s + x) = nI (if (s = num / 100 ∧ x = num % 100) ∨ (s = num % 100 ∧ x = num / 100) then v else aAL α s x)
      by_cases e3 : 12 * s + x = 12 * (num % 100) + num / 100
      · rw [e3, pk_us, if_pos (by omega)]
      · rw [pk_un e3]
        by_cases e4 : 12 * s + x = 12 * (num / 100) + num % 100
        · rw [e4, pk_us, if_pos (by omega)]
        · rw [pk_un e4, if_neg (by omega)]
          exact h.2.1.1 s x hs hx
    · show T (12 * k + s) = -1 ∨ (T (12 * k + s) = σ.2.2.1 257 0 (12 * k + s) ∧ _)
      rw [t2 k s hk hs]
      by_cases e : s = num / 100 ∨ s = num % 100
      · rw [if_pos ⟨Nat.zero_le k, e⟩]
        exact Or.inl rfl
      · rw [if_neg (fun z => e z.2)]
        exact Or.inr ⟨rfl, fun x => wv_set1 (fun z => e (Or.inl z)) (fun z => e (Or.inr z))⟩
  · obtain ⟨rfl, h2⟩ := hw
    rw [if_neg (show ¬ nI 2 = 0 by decide), if_neg (show ¬ nI 2 = 1 by decide), if_pos (show nI 2 = 2 by decide), chk_in h2 (by omega), nI_clamp (by omega), bnd_e]
    refine ⟨_, rfl, ⟨h.1, ⟨h.2.1.1, fun l hl => ⟨?_, (h.2.1.2.1 l hl).2⟩, h.2.1.2.2⟩, cache_cong rfl rfl rfl h.2.2.1, law_cong rfl (fun _ => rfl) (fun _ => rfl) h.2.2.2.1, h.2.2.2.2⟩, rfl, rfl⟩
    show upd (σ.2.2.1 251 0) num (nI v) l = nI (if l = num then v else aLG α l)
    by_cases e : l = num
    · rw [if_pos e, e, pk_us]
    · rw [if_neg e, pk_un e]; exact (h.2.1.2.1 l hl).1
  · obtain ⟨rfl, h2⟩ := hw
    rw [if_neg (show ¬ nI 3 = 0 by decide), if_neg (show ¬ nI 3 = 1 by decide), if_neg (show ¬ nI 3 = 2 by decide), if_pos (show nI 3 = 3 by decide), chk_in h2 (by omega), nI_clamp (by omega), bnd_e]
    refine ⟨_, rfl, ⟨h.1, ⟨h.2.1.1, fun l hl => ⟨(h.2.1.2.1 l hl).1, ?_⟩, h.2.1.2.2⟩, cache_cong rfl rfl rfl h.2.2.1, law_cong rfl (fun _ => rfl) (fun _ => rfl) h.2.2.2.1, h.2.2.2.2⟩, rfl, rfl⟩
    show upd (σ.2.2.1 252 0) num (nI v) l = nI (if l = num then v else aCL α l)
    by_cases e : l = num
    · rw [if_pos e, e, pk_us]
    · rw [if_neg e, pk_un e]; exact (h.2.1.2.1 l hl).2
  · obtain ⟨rfl, h2⟩ := hw
    rw [if_neg (show ¬ nI 4 = 0 by decide), if_neg (show ¬ nI 4 = 1 by decide), if_neg (show ¬ nI 4 = 2 by decide), if_neg (show ¬ nI 4 = 3 by decide)]
    unfold f_X5_makeNoise
    rw [bnd_e, bnd1_e]
    refine ⟨_, rfl, ⟨h.1, ⟨h.2.1.1, h.2.1.2.1, rfl⟩, cache_mk h.2.2.1 (fun k s hk hs => Or.inl ?_), law_cong rfl (fun _ => rfl) (fun _ => rfl) h.2.2.2.1, h.2.2.2.2⟩, rfl, rfl⟩
    exact if_pos (show 12 * k + s < 120 by omega)
/-! changes -/
def uCH (α : Ab) (l : List (Nat × Nat × Nat × Nat)) (d : Nat) : Ab := (α.1, α.2.1, α.2.2.1, α.2.2.2.1, (l, d), α.2.2.2.2.2)
theorem okA_CH {k : Nat} {α : Ab} {l : List (Nat × Nat × Nat × Nat)} {d : Nat} (h : OkA k α) (hl : OkC (aN α).length l d) : OkA k (uCH α l d) := ⟨h.1, h.2.1, h.2.2.1, hl, h.2.2.2.2⟩
theorem absC_CH {α : Ab} {σ σ' : St} {l : List (Nat × Nat × Nat × Nat)} {d : Nat} (h : AbsC α σ) (h1 : ∀ f o, 6 < f → σ'.1 f o = σ.1 f o) (h2 : ∀ f o, 3 < f → σ'.2.2.1 f o = σ.2.2.1 f o) (h3 : σ'.2.2.2 = σ.2.2.2) (hC : ChgC l d (σ'.2.2.1 0 0) (σ'.2.2.1 1 0) (σ'.2.2.1 2 0) (σ'.2.2.1 3 0) (σ'.1 4 0) (σ'.1 5 0) (σ'.1 6 0)) : AbsC (uCH α l d) σ' := by
  obtain ⟨a, b, c, e⟩ := σ
  obtain ⟨a', b', c', e'⟩ := σ'
  cases (show e' = e from h3)
  have g : ∀ f o, 6 < f → a' f o = a f o := h1
  have i : ∀ f o, 3 < f → c' f o = c f o := h2
  refine ⟨?_, ?_, ?_, law_cong (σ := (a, b, c, e)) rfl (fun j => i 200 j (by decide)) (fun j => g 203 j (by decide)) h.2.2.2.1, h.2.2.2.2.1, ?_, hC, ?_, ?_, ?_, ?_⟩
  · show NamesP _ _ (a' 303 0) (c' 301 0) (c' 300 0) (c' 302 0)
    rw [g 303 0 (by decide), i 301 0 (by decide), i 300 0 (by decide), i 302 0 (by decide)]
    exact h.1
  · show LineC _ _ _ _ (c' 250 0) (c' 251 0) (c' 252 0) (a' 253 0)
    rw [g 253 0 (by decide), i 250 0 (by decide), i 251 0 (by decide), i 252 0 (by decide)]
    exact h.2.1
  · show CacheC _ (c' 256 0) (c' 257 0)
    rw [i 256 0 (by decide), i 257 0 (by decide)]
    exact cache_cong rfl rfl rfl h.2.2.1
  · show TapeP _ (a' 351 0) (c' 350 0)
    rw [g 351 0 (by decide), i 350 0 (by decide)]
    exact h.2.2.2.2.2.1
  · have q := h.2.2.2.2.2.2.2.1
    unfold DeedC at *
    show a' 52 0 = _ ∧ a' 56 0 = _ ∧ a' 53 0 = _ ∧ a' 54 0 = _ ∧ a' 55 0 = _ ∧ (_ → a' 57 0 = _ ∧ ∀ i, i < 6 → c' 50 0 i = _ ∧ (_ → c' 51 0 i = _))
    rw [g 52 0 (by decide), g 53 0 (by decide), g 54 0 (by decide), g 55 0 (by decide), g 56 0 (by decide), g 57 0 (by decide), i 50 0 (by decide), i 51 0 (by decide)]
    exact q
  · refine ⟨(g 561 0 (by decide)).trans h.2.2.2.2.2.2.2.2.1.1, fun x hx => ?_⟩
    have q := h.2.2.2.2.2.2.2.2.1.2 x hx
    unfold DeedC at *
    show a' 52 1 = _ ∧ a' 56 1 = _ ∧ a' 53 1 = _ ∧ a' 54 1 = _ ∧ a' 55 1 = _ ∧ (_ → a' 57 1 = _ ∧ ∀ i, i < 6 → c' 50 1 i = _ ∧ (_ → c' 51 1 i = _))
    rw [g 52 1 (by decide), g 53 1 (by decide), g 54 1 (by decide), g 55 1 (by decide), g 56 1 (by decide), g 57 1 (by decide), i 50 1 (by decide), i 51 1 (by decide)]
    exact q
  · show SpellP _ _ _ (a' 502 0) (c' 500 0) (a' 503 0) (c' 501 0)
    rw [g 502 0 (by decide), g 503 0 (by decide), i 500 0 (by decide), i 501 0 (by decide)]
    exact h.2.2.2.2.2.2.2.2.2.1
  · intro j hj
    have q := h.2.2.2.2.2.2.2.2.2.2 j hj
    show (_ → a' 401 j = _) ∧ (_ → a' 401 j = _) ∧ (_ → a' 401 j = _ ∧ a' 402 j = _ ∧ a' 403 j = _ ∧ _)
    rw [g 401 j (by decide), g 402 j (by decide), g 403 j (by decide)]
    exact q
theorem absM_CH {α : Ab} {τ τ' : St} {l : List (Nat × Nat × Nat × Nat)} {d : Nat} (h : AbsM α τ) (h1 : ∀ f o, f ≠ 604 → f ≠ 605 → τ'.1 f o = τ.1 f o) (h2 : ∀ f o, f ≠ 601 → f ≠ 602 → f ≠ 603 → τ'.2.2.1 f o = τ.2.2.1 f o) (h3 : τ'.2.2.2 = τ.2.2.2) (hC : ChgM l d (τ'.2.2.1 601 0) (τ'.2.2.1 602 0) (τ'.2.2.1 603 0) (τ'.1 604 0) (τ'.1 605 0)) : AbsM (uCH α l d) τ' := by
  obtain ⟨a, b, c, e⟩ := τ
  obtain ⟨a', b', c', e'⟩ := τ'
  cases (show e' = e from h3)
  have g : ∀ f o, f ≠ 604 → f ≠ 605 → a' f o = a f o := h1
  have i : ∀ f o, f ≠ 601 → f ≠ 602 → f ≠ 603 → c' f o = c f o := h2
  refine ⟨?_, ?_, lawM_cong (i 611 0 (by decide) (by decide) (by decide)) (g 612 0 (by decide) (by decide)) h.2.2.1, ?_, hC, ?_, ?_, ?_, ?_⟩
  · show NamesP _ _ (a' 606 0) (c' 607 0) (c' 608 0) (c' 600 0)
    rw [g 606 0 (by decide) (by decide), i 607 0 (by decide) (by decide) (by decide), i 608 0 (by decide) (by decide) (by decide), i 600 0 (by decide) (by decide) (by decide)]
    exact h.1
  · show LineM _ _ _ _ (c' 600 0)
    rw [i 600 0 (by decide) (by decide) (by decide)]
    exact h.2.1
  · show TapeP _ (a' 610 0) (c' 609 0)
    rw [g 610 0 (by decide) (by decide), i 609 0 (by decide) (by decide) (by decide)]
    exact h.2.2.2.1
  · have q := h.2.2.2.2.2.1
    unfold DeedM at *
    show a' 623 0 = _ ∧ a' 628 0 = _ ∧ a' 629 0 = _ ∧ a' 630 0 = _ ∧ (_ → a' 625 0 = _ ∧ a' 624 0 = _ ∧ ∀ i, i < 6 → c' 626 0 i = _ ∧ c' 627 0 i = _)
    rw [g 623 0 (by decide) (by decide), g 628 0 (by decide) (by decide), g 629 0 (by decide) (by decide), g 630 0 (by decide) (by decide), g 625 0 (by decide) (by decide), g 624 0 (by decide) (by decide), i 626 0 (by decide) (by decide) (by decide), i 627 0 (by decide) (by decide) (by decide)]
    exact q
  · show a' 631 0 = _ ∧ ∀ d, _ → ImgM d (c' 632 0)
    rw [g 631 0 (by decide) (by decide), i 632 0 (by decide) (by decide) (by decide)]
    exact h.2.2.2.2.2.2.1
  · show SpellP _ _ _ (a' 633 0) (c' 634 0) (a' 636 0) (c' 635 0)
    rw [g 633 0 (by decide) (by decide), g 636 0 (by decide) (by decide), i 634 0 (by decide) (by decide) (by decide), i 635 0 (by decide) (by decide) (by decide)]
    exact h.2.2.2.2.2.2.2.1
  · show ShelfM _ (c' 639 0) (c' 640 0) _
    rw [i 639 0 (by decide) (by decide) (by decide), i 640 0 (by decide) (by decide) (by decide)]
    exact h.2.2.2.2.2.2.2.2
theorem chg_l {l : List (Nat × Nat × Nat × Nat)} {c : Nat × Nat × Nat × Nat} {i : Nat} (h : i < l.length) : chg (l ++ [c]) i = chg l i := gd_l l c _ h
theorem chg_r {l : List (Nat × Nat × Nat × Nat)} {c : Nat × Nat × Nat × Nat} : chg (l ++ [c]) l.length = c := gd_r l c _
/-- the changes that stand, ahead of a new one -/
def pre (CH : List (Nat × Nat × Nat × Nat)) (DN : Nat) : List (Nat × Nat × Nat × Nat) := if DN = 40 then CH.drop 1 else CH.take DN
theorem pre_len {CH : List (Nat × Nat × Nat × Nat)} {DN : Nat} (h : CH.length ≤ 40) (h2 : DN ≤ CH.length) : (pre CH DN).length = if DN = 40 then 39 else DN := by
  unfold pre
  by_cases e : DN = 40
  · rw [if_pos e, if_pos e, List.length_drop]; omega
  · rw [if_neg e, if_neg e, List.length_take]; omega
theorem chg_take {CH : List (Nat × Nat × Nat × Nat)} {DN i : Nat} (h : i < DN) : chg (CH.take DN) i = chg CH i := by
  unfold chg
  rw [List.getD_eq_getElem?_getD, List.getD_eq_getElem?_getD, List.getElem?_take_of_lt h]
theorem chg_drop {CH : List (Nat × Nat × Nat × Nat)} {i : Nat} : chg (CH.drop 1) i = chg CH (i + 1) := by
  unfold chg
  rw [List.getD_eq_getElem?_getD, List.getD_eq_getElem?_getD, List.getElem?_drop, Nat.add_comm]
theorem mod40 (n : Nat) (h : n < 2 ^ 31) : nI n - nI n / (40 : Int32) * (40 : Int32) = nI (n % 40) := pk_rem (d := 40) h (by omega) (by omega)
theorem enter_b {α : Ab} {σ0 σ : St} (h : AbsC α σ0) (h1 : ∀ f o, 6 < f → σ.1 f o = σ0.1 f o) (h2 : ∀ f o, 3 < f → σ.2.2.1 f o = σ0.2.2.1 f o) (h3 : σ.2.2.2 = σ0.2.2.2) {l : List (Nat × Nat × Nat × Nat)} (hl : l.length < 40) (e4 : σ.1 4 0 = nI l.length) {f : Nat} (hf : f < 40) (e6 : σ.1 6 0 = nI f) (he : ∀ i, i < l.length → σ.2.2.1 0 0 ((f + i) % 40) = nI (chg l i).1 ∧ σ.2.2.1 1 0 ((f + i) % 40) = nI (chg l i).2.1 ∧ σ.2.2.1 2 0 ((f + i) % 40) = nI (chg l i).2.2.1 ∧ σ.2.2.1 3 0 ((f + i) % 40) = nI (chg l i).2.2.2) (a b c d : Nat) : ∃ σ', f_X0_enter_b32 σ (nI a) (nI b) (nI c) (nI d) = some σ' ∧ AbsC (uCH α (l ++ [(a, b, c, d)]) (l.length + 1)) σ' := by
  unfold f_X0_enter_b32
  have hm : (f + l.length) % 40 < 40 := Nat.mod_lt _ (by decide)
  rw [e4, e6, nI_add, mod40 _ (by omega)]
  simp only [bnd_e, chk_in hm (show 40 ≤ 2000000000 by omega)]
  simp only [bnd_e, nI_clamp (show (f + l.length) % 40 < 2 ^ 31 by omega)]
  refine ⟨_, rfl, absC_CH h (fun x o hx => ?_) (fun x o hx => ?_) h3 ?_⟩
  · refine (if_neg (fun z => ?_)).trans ((if_neg (fun z => ?_)).trans (h1 x o hx))
    · omega
    · omega
  · refine (if_neg (fun z => ?_)).trans ((if_neg (fun z => ?_)).trans ((if_neg (fun z => ?_)).trans ((if_neg (fun z => ?_)).trans (h2 x o hx))))
    · omega
    · omega
    · omega
    · omega
  · refine ⟨?_, ?_, f, hf, e6, fun i hi => ?_⟩
    · show σ.1 4 0 + 1 = nI (l.length + 1)
      rw [e4, nI_p1]
    · show (0 : Int32) = nI ((l ++ [(a, b, c, d)]).length - (l.length + 1))
      rw [len_push, Nat.sub_self]
      rfl
    · rw [len_push] at hi
      show upd (σ.2.2.1 0 0) ((f + l.length) % 40) (nI a) ((f + i) % 40) = _ ∧ upd (σ.2.2.1 1 0) ((f + l.length) % 40) (nI b) ((f + i) % 40) = _ ∧ upd (σ.2.2.1 2 0) ((f + l.length) % 40) (nI c) ((f + i) % 40) = _ ∧ upd (σ.2.2.1 3 0) ((f + l.length) % 40) (nI d) ((f + i) % 40) = _
      by_cases e : i = l.length
      · subst e
        rw [pk_us, pk_us, pk_us, pk_us, chg_r]
        exact ⟨rfl, rfl, rfl, rfl⟩
      · have hi2 : i < l.length := by omega
        have hne : (f + i) % 40 ≠ (f + l.length) % 40 := by omega
        rw [pk_un hne, pk_un hne, pk_un hne, pk_un hne, chg_l hi2]
        exact he i hi2
theorem enter_C {k : Nat} {α : Ab} {σ : St} (ho : OkA k α) (h : AbsC α σ) (a b c d : Nat) : ∃ σ', f_X0_enter σ (nI a) (nI b) (nI c) (nI d) = some σ' ∧ AbsC (uCH α (pre (aCH α) (aDN α) ++ [(a, b, c, d)]) ((pre (aCH α) (aDN α)).length + 1)) σ' := by
  obtain ⟨g1, g2, f, hf, g3, g4⟩ := cCh h
  obtain ⟨c1, c2, _⟩ := ho.2.2.2.1
  have hp := pre_len c1 c2
  unfold f_X0_enter
  by_cases e : aDN α = 40
  · have e40 : σ.1 4 0 = 40 := by rw [g1, e]; rfl
    rw [if_pos e] at hp
    have e1 : σ.1 6 0 + 1 - (σ.1 6 0 + 1) / (40 : Int32) * (40 : Int32) = nI ((f + 1) % 40) := by rw [g3, nI_p1, mod40 _ (by omega)]
    rw [if_pos e40, e1, bnd_e]
    refine enter_b (σ := sI (sI σ 6 0 (nI ((f + 1) % 40))) 4 0 ((sI σ 6 0 (nI ((f + 1) % 40))).1 4 0 - 1)) h (fun x o hx => ?_) (fun _ _ _ => rfl) rfl (l := pre (aCH α) (aDN α)) (by omega) ?_ (f := (f + 1) % 40) (Nat.mod_lt _ (by decide)) rfl (fun i hi => ?_) a b c d
    · exact (if_neg (fun z => by omega)).trans (if_neg (fun z => by omega))
    · show (sI σ 6 0 (nI ((f + 1) % 40))).1 4 0 - 1 = nI (pre (aCH α) (aDN α)).length
      rw [hp]
      show σ.1 4 0 - 1 = nI 39
      rw [e40]
      rfl
    · have h5 := g4 (i + 1) (by omega)
      have e5 : ((f + 1) % 40 + i) % 40 = (f + (i + 1)) % 40 := by omega
      have e6 : chg (pre (aCH α) (aDN α)) i = chg (aCH α) (i + 1) := by
        unfold pre
        rw [if_pos e, chg_drop]
      rw [e5, e6]
      exact h5
  · rw [if_neg e] at hp
    rw [if_neg (show ¬ σ.1 4 0 = 40 by rw [g1]; exact nI_lit_ne (m := 40) e (by omega) (by omega))]
    refine enter_b h (fun _ _ _ => rfl) (fun _ _ _ => rfl) rfl (l := pre (aCH α) (aDN α)) (by omega) (by rw [g1, hp]) hf g3 (fun i hi => ?_) a b c d
    have e6 : chg (pre (aCH α) (aDN α)) i = chg (aCH α) i := by
      unfold pre
      rw [if_neg e, chg_take (by omega)]
    rw [e6]
    exact g4 i (by omega)
