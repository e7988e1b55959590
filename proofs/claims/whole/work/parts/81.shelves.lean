/-! SHELVES: changed ones -/
def sU (S : Nat → Nat × Nat × (Nat → Int64)) (d : Nat) (v : Nat × Nat × (Nat → Int64)) : Nat → Nat × Nat × (Nat → Int64) := fun j => if j = d then v else S j
theorem sU_s (S : Nat → Nat × Nat × (Nat → Int64)) (d : Nat) (v : Nat × Nat × (Nat → Int64)) : sU S d v d = v := if_pos rfl
theorem sU_n (S : Nat → Nat × Nat × (Nat → Int64)) {d j : Nat} (v : Nat × Nat × (Nat → Int64)) (h : j ≠ d) : sU S d v j = S j := if_neg h
theorem okA_SH {k : Nat} {α : Ab} {S : Nat → Nat × Nat × (Nat → Int64)} (h : OkA k α) (hS : OkS (aBK α).length S) : OkA k (uSH α S) := ⟨h.1, h.2.1, h.2.2.1, h.2.2.2.1, h.2.2.2.2.1, h.2.2.2.2.2.1, h.2.2.2.2.2.2.1, hS⟩
theorem okS_U {k : Nat} {α : Ab} (ho : OkA k α) (d : Nat) {v : Nat × Nat × (Nat → Int64)} (hv : v.1 = 0 ∨ (1 ≤ v.1 ∧ v.1 ≤ (aBK α).length) ∨ (51 ≤ v.1 ∧ v.1 ≤ 55 ∧ v.2.1 ≤ 60)) : OkS (aBK α).length (sU (aSH α) d v) := by
  intro j hj
  by_cases e : j = d
  · subst e
    rw [sU_s]
    exact hv
  · rw [sU_n _ v e]
    exact oSh ho j hj
theorem shC_mk {S : Nat → Nat × Nat × (Nat → Int64)} {σ σ' : St} (h : ShelfC S σ) {d : Nat} {v : Nat × Nat × (Nat → Int64)} (hn : ∀ j, j ≠ d → σ'.1 401 j = σ.1 401 j ∧ σ'.1 402 j = σ.1 402 j ∧ σ'.1 403 j = σ.1 403 j ∧ σ'.2.2.2.1 400 j = σ.2.2.2.1 400 j) (hd : (v.1 = 0 → σ'.1 401 d = -1) ∧ (1 ≤ v.1 ∧ v.1 ≤ 50 → σ'.1 401 d = nI (v.1 - 1)) ∧ (51 ≤ v.1 → σ'.1 401 d = -2 ∧ σ'.1 402 d = nI (v.1 - 51) ∧ σ'.1 403 d = nI v.2.1 ∧ ∀ i, i < v.2.1 → σ'.2.2.2.1 400 d i = v.2.2 i)) : ShelfC (sU S d v) σ' := by
  intro j hj
  by_cases e : j = d
  · subst e
    rw [sU_s]
    exact hd
  · obtain ⟨e1, e2, e3, e4⟩ := hn j e
    rw [sU_n _ v e, e1, e2, e3, e4]
    exact h j hj
theorem shM_mk {k : Nat} {α : Ab} {sh ma sh' ma' : Nat → Int32} {it it' : Nat → Int64} (ho : OkA k α) (h : ShelfM (aSH α) sh ma it) {d : Nat} {v : Nat × Nat × (Nat → Int64)} (hn : ∀ j, j ≠ d → sh' j = sh j ∧ (51 ≤ (aSH α j).1 → ma' j = ma j)) (hi : ∀ j i, j ≠ d → i < 60 → it' (60 * j + i) = it (60 * j + i)) (hd : (v.1 = 0 → sh' d = -1) ∧ (1 ≤ v.1 → sh' d = nI (v.1 - 1)) ∧ (51 ≤ v.1 → ma' d = nI v.2.1 ∧ ∀ i, i < v.2.1 → it' (60 * d + i) = v.2.2 i)) : ShelfM (sU (aSH α) d v) sh' ma' it' := by
  intro j hj
  by_cases e : j = d
  · subst e
    rw [sU_s]
    exact hd
  · obtain ⟨e1, e2⟩ := hn j e
    rw [sU_n _ v e, e1]
    obtain ⟨h1, h2, h3⟩ := h j hj
    refine ⟨h1, h2, fun q => ⟨(e2 q).trans (h3 q).1, fun i hi2 => ?_⟩⟩
    have h60 : (aSH α j).2.1 ≤ 60 := by rcases sh3 ho hj with z | z | z <;> omega
    rw [hi j i e (by omega)]
    exact (h3 q).2 i hi2
theorem absC_SH {α : Ab} {σ σ' : St} {S : Nat → Nat × Nat × (Nat → Int64)} (h : AbsC α σ) (h1 : ∀ f o, f ≠ 401 → f ≠ 402 → f ≠ 403 → σ'.1 f o = σ.1 f o) (h3 : σ'.2.2.1 = σ.2.2.1) (h5 : σ'.2.2.2.2 = σ.2.2.2.2) (hS : ShelfC S σ') : AbsC (uSH α S) σ' := by
  obtain ⟨a, b, c, d, e⟩ := σ
  obtain ⟨a', b', c', d', e'⟩ := σ'
  cases (show c' = c from h3)
  cases (show e' = e from h5)
  have g : ∀ f o, f ≠ 401 → f ≠ 402 → f ≠ 403 → a' f o = a f o := h1
  refine ⟨?_, ?_, cache_cong rfl rfl rfl h.2.2.1, law_cong (σ := (a, b, c, d, e)) rfl (fun _ => rfl) (fun j => g 203 j (by decide) (by decide) (by decide)) h.2.2.2.1, h.2.2.2.2.1, ?_, ?_, ?_, ?_, ?_, hS⟩
  · show NamesP _ _ (a' 303 0) _ _ _
    rw [g 303 0 (by decide) (by decide) (by decide)]
    exact h.1
  · show LineC _ _ _ _ _ _ _ (a' 253 0)
    rw [g 253 0 (by decide) (by decide) (by decide)]
    exact h.2.1
  · show TapeP _ (a' 351 0) _
    rw [g 351 0 (by decide) (by decide) (by decide)]
    exact h.2.2.2.2.2.1
  · show ChgC _ _ _ _ _ _ (a' 4 0) (a' 5 0) (a' 6 0)
    rw [g 4 0 (by decide) (by decide) (by decide), g 5 0 (by decide) (by decide) (by decide), g 6 0 (by decide) (by decide) (by decide)]
    exact h.2.2.2.2.2.2.1
  · have q := h.2.2.2.2.2.2.2.1
    unfold DeedC at *
    show a' 52 0 = _ ∧ a' 56 0 = _ ∧ a' 53 0 = _ ∧ a' 54 0 = _ ∧ a' 55 0 = _ ∧ (_ → a' 57 0 = _ ∧ _)
    rw [g 52 0 (by decide) (by decide) (by decide), g 53 0 (by decide) (by decide) (by decide), g 54 0 (by decide) (by decide) (by decide), g 55 0 (by decide) (by decide) (by decide), g 56 0 (by decide) (by decide) (by decide), g 57 0 (by decide) (by decide) (by decide)]
    exact q
  · refine ⟨(g 561 0 (by decide) (by decide) (by decide)).trans h.2.2.2.2.2.2.2.2.1.1, fun x hx => ?_⟩
    have q := h.2.2.2.2.2.2.2.2.1.2 x hx
    unfold DeedC at *
    show a' 52 1 = _ ∧ a' 56 1 = _ ∧ a' 53 1 = _ ∧ a' 54 1 = _ ∧ a' 55 1 = _ ∧ (_ → a' 57 1 = _ ∧ _)
    rw [g 52 1 (by decide) (by decide) (by decide), g 53 1 (by decide) (by decide) (by decide), g 54 1 (by decide) (by decide) (by decide), g 55 1 (by decide) (by decide) (by decide), g 56 1 (by decide) (by decide) (by decide), g 57 1 (by decide) (by decide) (by decide)]
    exact q
  · show SpellP _ _ _ (a' 502 0) _ (a' 503 0) _
    rw [g 502 0 (by decide) (by decide) (by decide), g 503 0 (by decide) (by decide) (by decide)]
    exact h.2.2.2.2.2.2.2.2.2.1
theorem absM_SH {α : Ab} {τ τ' : St} {S : Nat → Nat × Nat × (Nat → Int64)} (h : AbsM α τ) (h1 : τ'.1 = τ.1) (h3 : ∀ f o, f ≠ 639 → f ≠ 640 → τ'.2.2.1 f o = τ.2.2.1 f o) (hS : ShelfM S (τ'.2.2.1 639 0) (τ'.2.2.1 640 0) (τ'.2.2.2.1 641 0)) : AbsM (uSH α S) τ' := by
  obtain ⟨a, b, c, d, e⟩ := τ
  obtain ⟨a', b', c', d', e'⟩ := τ'
  cases (show a' = a from h1)
  have g : ∀ f o, f ≠ 639 → f ≠ 640 → c' f o = c f o := h3
  refine ⟨?_, ?_, ?_, ?_, ?_, ?_, ?_, ?_, hS⟩
  · show NamesP _ _ _ (c' 607 0) (c' 608 0) (c' 600 0)
    rw [g 607 0 (by decide) (by decide), g 608 0 (by decide) (by decide), g 600 0 (by decide) (by decide)]
    exact h.1
  · show LineM _ _ _ _ (c' 600 0)
    rw [g 600 0 (by decide) (by decide)]
    exact h.2.1
  · exact lawM_cong (τ := (a, b, c, d, e)) (g 611 0 (by decide) (by decide)) rfl h.2.2.1
  · show TapeP _ _ (c' 609 0)
    rw [g 609 0 (by decide) (by decide)]
    exact h.2.2.2.1
  · show ChgM _ _ (c' 601 0) (c' 602 0) (c' 603 0) _ _
    rw [g 601 0 (by decide) (by decide), g 602 0 (by decide) (by decide), g 603 0 (by decide) (by decide)]
    exact h.2.2.2.2.1
  · have q := h.2.2.2.2.2.1
    unfold DeedM at *
    show _ ∧ _ ∧ _ ∧ _ ∧ (_ → _ ∧ _ ∧ ∀ i, i < 6 → c' 626 0 i = _ ∧ c' 627 0 i = _)
    rw [g 626 0 (by decide) (by decide), g 627 0 (by decide) (by decide)]
    exact q
  · show _ ∧ ∀ d, _ → ImgM d (c' 632 0)
    rw [g 632 0 (by decide) (by decide)]
    exact h.2.2.2.2.2.2.1
  · show SpellP _ _ _ _ (c' 634 0) _ (c' 635 0)
    rw [g 634 0 (by decide) (by decide), g 635 0 (by decide) (by decide)]
    exact h.2.2.2.2.2.2.2.1
/-! 37 keep -/
theorem keep_fin {k : Nat} {α : Ab} {σ τ : St} (ho : OkA k α) (hc : AbsC α σ) (hm : AbsM α τ) {d : Nat} (hd : d < 6) {p : Int32} (t : Nat) (ht : (t = 0 ∧ p = -1) ∨ (1 ≤ t ∧ t ≤ (aBK α).length ∧ p = nI (t - 1))) : ∃ r σ' τ', f_X11_keep_b25 σ (nI d) p = some (r, σ') ∧ f_X12_keep_b22 τ (nI d) p = some (r, τ') ∧ Rel (k + 1) σ' τ' := by
  unfold f_X11_keep_b25 f_X12_keep_b22 f_X8_hold
  simp only [chk_in hd (show 6 ≤ 2000000000 by omega), bnd1_e, bnd_e]
  simp only [nI_clamp (show d < 2 ^ 31 by omega)]
  have h50 := (oSp ho).1
  refine ⟨1, _, _, rfl, rfl, uSH α (sU (aSH α) d (t, 0, fun _ => 0)), okA_mono (okA_SH ho (okS_U ho d (by
    rcases ht with z | z
    · exact Or.inl z.1
    · exact Or.inr (Or.inl ⟨z.1, z.2.1⟩)))), ?_, ?_⟩
  · refine absC_SH hc (fun f o h1 _ _ => if_neg (fun z => h1 z.1)) rfl rfl (shC_mk (cSh hc) (fun j hj => ⟨if_neg (fun z => hj z.2), rfl, rfl, rfl⟩) ⟨fun z => ?_, fun z => ?_, fun z => ?_⟩)
    · have z' : t = 0 := z
      refine (if_pos ⟨rfl, rfl⟩).trans ?_
      rcases ht with y | y
      · exact y.2
      · omega
    · have z' : 1 ≤ t ∧ t ≤ 50 := z
      refine (if_pos ⟨rfl, rfl⟩).trans ?_
      rcases ht with y | y
      · omega
      · exact y.2.2
    · have z' : 51 ≤ t := z
      rcases ht with y | y <;> omega
  · refine absM_SH hm rfl (fun f o h1 h2 => (if_neg (fun z => h2 z.1)).trans (if_neg (fun z => h1 z.1))) (shM_mk ho (mSh hm) (fun j hj => ⟨pk_un hj, fun _ => pk_un hj⟩) (fun j i _ _ => rfl) ⟨fun z => ?_, fun z => ?_, fun z => ?_⟩)
    · have z' : t = 0 := z
      refine pk_us.trans ?_
      rcases ht with y | y
      · exact y.2
      · omega
    · have z' : 1 ≤ t := z
      refine pk_us.trans ?_
      rcases ht with y | y
      · omega
      · exact y.2.2
    · have z' : 51 ≤ t := z
      rcases ht with y | y <;> omega
theorem st37 (k : Nat) : Step_37 (Rel k) (Rel (k + 1)) := by
  intro σ τ p q hr
  obtain ⟨α, ho, hc, hm⟩ := hr
  have hR : Rel (k + 1) σ τ := ⟨α, okA_mono ho, hc, hm⟩
  unfold f_X11_keep f_X12_keep
  rcases shelf_both p with ⟨d, hd, e, h1, h2⟩ | ⟨h1, h2⟩
  · rw [h1, h2, bnd1_e, bnd1_e, if_neg one_n0, if_neg one_n0]
    subst e
    by_cases hq : q = -1
    · rw [if_pos hq, if_pos hq]
      exact keep_fin ho hc hm hd 0 (Or.inl ⟨rfl, hq⟩)
    · rw [if_neg hq, if_neg hq]
      rcases body_both ho hc hm q with ⟨n, hn, hn2, e, b1, b2⟩ | ⟨b1, b2⟩
      · rw [b1, b2, bnd2_e, bnd2_e, if_neg one_n0, if_neg one_n0]
        exact keep_fin ho hc hm hd (n + 1) (Or.inr ⟨by omega, by omega, e⟩)
      · rw [b1, b2]
        exact ⟨_, _, _, rfl, rfl, hR⟩
  · rw [h1, h2]
    exact ⟨_, _, _, rfl, rfl, hR⟩
/-! 38 row -/
theorem sL_sL (σ : St) (f o : Nat) (a b : Nat → Int64) : sL (sL σ f o a) f o b = sL σ f o b := by
  unfold sL
  have h : (fun f' o' => if f' = f ∧ o' = o then b else (fun f' o' => if f' = f ∧ o' = o then a else σ.2.2.2.1 f' o') f' o') = (fun f' o' => if f' = f ∧ o' = o then b else σ.2.2.2.1 f' o') := by
    funext x y
    by_cases h : x = f ∧ y = o
    · rw [if_pos h, if_pos h]
    · rw [if_neg h, if_neg h]
      exact if_neg h
  show (σ.1, σ.2.1, σ.2.2.1, (fun f' o' => if f' = f ∧ o' = o then b else (fun f' o' => if f' = f ∧ o' = o then a else σ.2.2.2.1 f' o') f' o'), σ.2.2.2.2) = _
  rw [h]
theorem sL_self (σ : St) (f o : Nat) : sL σ f o (σ.2.2.2.1 f o) = σ := by
  unfold sL
  have h : (fun f' o' => if f' = f ∧ o' = o then σ.2.2.2.1 f o else σ.2.2.2.1 f' o') = σ.2.2.2.1 := by
    funext x y
    by_cases h : x = f ∧ y = o
    · rw [if_pos h, h.1, h.2]
    · rw [if_neg h]
  rw [h]
theorem row_loop {d : Nat} (hd : d < 6) : ∀ m i f τ, i + m = 60 * d + 60 → m < f → ∃ G, f_X12_row_b57 f τ (nI d) (nI i) = some (1, sL τ 641 0 G) ∧ (∀ j, i ≤ j → j < 60 * d + 60 → G j = 0) ∧ ∀ j, (j < i ∨ 60 * d + 60 ≤ j) → G j = τ.2.2.2.1 641 0 j := by
  have e60 : (60 : Int32) * nI d + 60 = nI (60 * d + 60) := by
    show nI 60 * nI d + nI 60 = _
    rw [pk_mul, nI_add]
  intro m
  induction m with
  | zero =>
    intro i f τ hi hf
    obtain ⟨f, rfl⟩ : ∃ x, f = x + 1 := ⟨f - 1, by omega⟩
    rw [f_X12_row_b57, e60, if_pos (nI_le (by omega) (by omega))]
    exact ⟨τ.2.2.2.1 641 0, by rw [sL_self], fun j h1 h2 => absurd h2 (by omega), fun j _ => rfl⟩
  | succ m ih =>
    intro i f τ hi hf
    obtain ⟨f, rfl⟩ : ∃ x, f = x + 1 := ⟨f - 1, by omega⟩
    rw [f_X12_row_b57, e60, if_neg (nI_ge (show i < 60 * d + 60 by omega) (by omega)), chk_in (show i < 360 by omega) (by omega), nI_clamp (by omega)]
    simp only [bnd_e, nI_p1]
    obtain ⟨G, h1, h2, h3⟩ := ih (i + 1) f (sL τ 641 0 (vp_updL (τ.2.2.2.1 641 0) i 0)) (by omega) (by omega)
    rw [sL_sL] at h1
    refine ⟨G, h1, fun j q1 q2 => ?_, fun j hj => ?_⟩
    · by_cases e : j = i
      · subst e
        refine (h3 j (by omega)).trans ?_
        exact pk_uLs
      · exact h2 j (by omega) q2
    · refine (h3 j (by omega)).trans ?_
      exact pk_uLn (by omega)
theorem st38 (k : Nat) : Step_38 (Rel k) (Rel (k + 1)) := by
  intro σ τ p q r hr
  obtain ⟨α, ho, hc, hm⟩ := hr
  have hR : Rel (k + 1) σ τ := ⟨α, okA_mono ho, hc, hm⟩
  unfold f_X11_row f_X12_row
  rcases shelf_both p with ⟨d, hd, e, h1, h2⟩ | ⟨h1, h2⟩
  · rw [h1, h2, bnd1_e, bnd1_e, if_neg one_n0, if_neg one_n0, show f_X12_within q.toInt64 0 4 = some (tf (0 ≤ q ∧ q ≤ 4)) from w32 q 0 4]
    subst e
    by_cases hq : 0 ≤ q ∧ q ≤ 4
    · obtain ⟨s, hs, es⟩ := rng_of (n := 4) (by omega) hq
      rw [tf_t hq, if_neg (Int32.not_lt.mpr hq.1), if_neg (show ¬ (5 : Int32) ≤ q by rw [es]; exact nI_ge (b := 5) (by omega) (by omega)), bnd1_e, if_neg one_n0]
      by_cases h3 : r ≤ 60
      · rw [if_pos h3, if_pos h3]
        by_cases h4 : 0 ≤ r
        · rw [if_pos h4, if_pos h4]
          obtain ⟨n, hn, en⟩ := rng_of (n := 60) (by omega) ⟨h4, h3⟩
          subst es
          subst en
          unfold f_X8_holdRow
          simp only [chk_in hd (show 6 ≤ 2000000000 by omega), bnd_e, bnd1_e]
          simp only [nI_clamp (show d < 2 ^ 31 by omega), bnd_e, bnd1_e]
          have e60 : (60 : Int32) * nI d = nI (60 * d) := pk_mul 60 d
          have e50 : (50 : Int32) + nI s = nI (50 + s) := nI_add 50 s
          rw [e60, e50]
          obtain ⟨G, g1, g2, g3⟩ := row_loop hd 60 (60 * d) 256 (sA (sA τ 639 0 (upd (τ.2.2.1 639 0) d (nI (50 + s)))) 640 0 (upd ((sA τ 639 0 (upd (τ.2.2.1 639 0) d (nI (50 + s)))).2.2.1 640 0) d (nI n))) (by omega) (by omega)
          rw [g1]
          refine ⟨1, _, _, rfl, rfl, uSH α (sU (aSH α) d (51 + s, n, fun _ => 0)), okA_mono (okA_SH ho (okS_U ho d (Or.inr (Or.inr ⟨by show 51 ≤ 51 + s; omega, by show 51 + s ≤ 55; omega, hn⟩)))), ?_, ?_⟩
          · refine absC_SH hc (fun f o h1 h2 h3 => (if_neg (fun z => h3 z.1)).trans ((if_neg (fun z => h2 z.1)).trans (if_neg (fun z => h1 z.1)))) rfl rfl (shC_mk (cSh hc) (fun j hj => ⟨?_, ?_, ?_, ?_⟩) ⟨fun z => absurd (show 51 + s = 0 from z) (by omega), fun z => absurd (show 51 + s ≤ 50 from z.2) (by omega), fun z => ⟨?_, ?_, ?_, fun i hi => ?_⟩⟩)
            · exact if_neg (fun z => hj z.2)
            · exact if_neg (fun z => hj z.2)
            · exact if_neg (fun z => hj z.2)
            · exact if_neg (fun z => hj z.2)
            · exact if_pos ⟨rfl, rfl⟩
            · refine (if_pos ⟨rfl, rfl⟩).trans ?_
              show nI s = nI (51 + s - 51)
              rw [show 51 + s - 51 = s by omega]
            · exact if_pos ⟨rfl, rfl⟩
            · refine (congrFun (if_pos ⟨rfl, rfl⟩) i).trans ?_
              have : i < n := hi
              exact if_pos (show i < 60 by omega)
          · refine absM_SH hm rfl (fun f o h1 h2 => (if_neg (fun z => h2 z.1)).trans (if_neg (fun z => h1 z.1))) (shM_mk ho (mSh hm) (fun j hj => ⟨pk_un hj, fun _ => pk_un hj⟩) (fun j i hj hi => ?_) ⟨fun z => absurd (show 51 + s = 0 from z) (by omega), fun _ => ?_, fun _ => ⟨pk_us, fun i hi => ?_⟩⟩)
            · exact (g3 (60 * j + i) (by omega)).trans rfl
            · refine pk_us.trans ?_
              show nI (50 + s) = nI (51 + s - 1)
              rw [show 51 + s - 1 = 50 + s by omega]
            · have : i < n := hi
              exact g2 (60 * d + i) (by omega) (by omega)
        · rw [if_neg h4, if_neg h4]
          exact ⟨_, _, _, rfl, rfl, hR⟩
      · rw [if_neg h3, if_neg h3]
        exact ⟨_, _, _, rfl, rfl, hR⟩
    · rw [tf_f hq, bnd1_e, if_pos rfl]
      by_cases h3 : q < 0
      · rw [if_pos h3]; exact ⟨_, _, _, rfl, rfl, hR⟩
      · have e5 : (5 : Int32) ≤ q := by
          have h4 : ¬ q ≤ 4 := fun y => hq ⟨Int32.not_lt.mp h3, y⟩
          rw [fa_le] at h4 ⊢
          have e1 : (4 : Int32).toInt = 4 := by decide
          have e2 : (5 : Int32).toInt = 5 := by decide
          rw [e1] at h4
          rw [e2]
          omega
        rw [if_neg h3, if_pos e5]; exact ⟨_, _, _, rfl, rfl, hR⟩
  · rw [h1, h2]
    exact ⟨_, _, _, rfl, rfl, hR⟩
