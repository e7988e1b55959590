/-! reading THE TAPE: the model's ranks -/
theorem rk_by {t : Nat → Nat} {len i r : Nat} (hr : r < 5) (hn : ¬ (i < len ∧ rkN (t i) = r)) : ¬ rkN (byN t len i) = r := by
  unfold byN
  by_cases e : i < len
  · rw [if_pos e]
    exact fun z => hn ⟨e, z⟩
  · rw [if_neg e]
    intro z
    have : rkN 0 = 9 := by decide
    omega
theorem byF {t : Nat → Nat} {len i : Nat} {τ : St} (h : MF t len i τ) (hl : len ≤ 120) : ∃ x, f_X12_byteAt τ = some (x, τ) := by
  obtain ⟨x, h1, h2⟩ := h.2.1
  exact ⟨_, byte_at h.1 h2 h1 hl⟩
theorem MF.le0 {t : Nat → Nat} {len i : Nat} {τ : St} (h : MF t len i τ) (hi : i ≤ len) (hl : len ≤ 120) : (0 : Int32) ≤ τ.1 616 0 := by
  rw [h.2.2]
  exact nI_0le (by omega)
theorem MSt.nle0 {t : Nat → Nat} {len i o : Nat} {τ : St} (h : MSt t len i o τ) : ¬ (0 : Int32) ≤ τ.1 616 0 := by
  rw [h.2.2.1]
  decide
theorem by_ne {t : Nat → Nat} {len i r : Nat} (ht : ∀ x, t x < 256) (hn : ¬ rkN (byN t len i) = r) {c : Nat} (hc : c < 256) (hk : rkN c = r) : ¬ nI (byN t len i) = nI c := by
  have := byN_b (len := len) ht i
  refine nI_lit_ne (fun z => hn ?_) (by omega) (by omega)
  rw [z]
  exact hk
theorem rk4 : ∀ c, c < 256 → rkN c = 4 → c = 42 ∨ c = 47 ∨ c = 37 := by decide +kernel
theorem rk3 : ∀ c, c < 256 → rkN c = 3 → c = 43 ∨ c = 45 := by decide +kernel
theorem rk2 : ∀ c, c < 256 → rkN c = 2 → c = 60 ∨ c = 61 ∨ c = 62 := by decide +kernel
theorem rk1 : ∀ c, c < 256 → rkN c = 1 → c = 38 := by decide +kernel
theorem rk0 : ∀ c, c < 256 → rkN c = 0 → c = 124 := by decide +kernel
def LpPr (N : St → Option (Int32 × St)) (f : Nat) (τ : St) (v : Int32) : Option (Int32 × St) := bnd2 (f_X12_byteAt τ) (fun r5 σ6 => f_X12_product_b10 N f σ6 v r5)
theorem prod35 (N : St → Option (Int32 × St)) (f : Nat) (τ : St) (v : Int32) {s : Nat} (hs : s = 42 ∨ s = 47 ∨ s = 37) : f_X12_product_b35 N (f_X12_product_b10 N f) τ v (nI s) = bnd2 (N (sI τ 614 0 (τ.1 614 0 + 1))) (fun w τ1 => LpPr N f τ1 (opv s v w)) := by
  unfold f_X12_product_b35
  refine congrArg (bnd2 _) (funext fun w => funext fun τ1 => ?_)
  rcases hs with hs | hs | hs
  · subst hs; rfl
  · subst hs
    rw [if_neg (show ¬ nI 47 = (42 : Int32) by decide)]
    by_cases h : w = 0
    · rw [if_pos h, show opv 47 v w = 0 from if_pos h]
      rfl
    · rw [if_neg h, if_pos (show nI 47 = (47 : Int32) from rfl), chk_e h, show opv 47 v w = v / w from if_neg h]
      rfl
  · subst hs
    rw [if_neg (show ¬ nI 37 = (42 : Int32) by decide)]
    by_cases h : w = 0
    · rw [if_pos h, show opv 37 v w = 0 from if_pos h]
      rfl
    · rw [if_neg h, if_neg (show ¬ nI 37 = (47 : Int32) by decide), chk_e h, show opv 37 v w = v - v / w * w from if_neg h]
      rfl
theorem lp_prod {t : Nat → Nat} {len o : Nat} (hl : len ≤ 120) (ht : ∀ x, t x < 256) (N : St → Option (Int32 × St)) : LpP t len o 4 N (LpPr N) := by
  refine ⟨fun f τ v i h hi => ?_, fun f τ v i h hi hn => ?_, fun f τ v i h e hk => ?_⟩
  · obtain ⟨x, hx⟩ := byF h hl
    unfold LpPr
    rw [hx, bnd2_e, f_X12_product_b10, if_pos (h.le0 hi hl)]
  · have hn' := rk_by (by omega) hn
    unfold LpPr
    rw [byte_at h.1 h.2.1 hi hl, bnd2_e, f_X12_product_b10, if_neg h.nle0, if_neg (show ¬ nI (byN t len i) = (42 : Int32) from by_ne ht hn' (c := 42) (by omega) rfl), if_neg (show ¬ nI (byN t len i) = (47 : Int32) from by_ne ht hn' (c := 47) (by omega) rfl), if_neg (show ¬ nI (byN t len i) = (37 : Int32) from by_ne ht hn' (c := 37) (by omega) rfl)]
  · have hs := rk4 _ (ht i) hk
    have e35 := prod35 N f τ v hs
    rw [h.2.1, nI_p1] at e35
    rw [← e35]
    show bnd2 (f_X12_byteAt τ) _ = _
    rw [byte_at h.1 h.2.1 (by omega) hl, bnd2_e, f_X12_product_b10, if_neg h.nle0, show byN t len i = t i from if_pos e]
    rcases hs with hs | hs | hs
    · rw [hs]; rfl
    · rw [hs]; rfl
    · rw [hs]; rfl
theorem lp_sum {t : Nat → Nat} {len o : Nat} (hl : len ≤ 120) (ht : ∀ x, t x < 256) (N : St → Option (Int32 × St)) : LpP t len o 3 N (f_X12_sumsUp_b5 N) := by
  refine ⟨fun f τ v i h hi => ?_, fun f τ v i h hi hn => ?_, fun f τ v i h e hk => ?_⟩
  · rw [f_X12_sumsUp_b5, if_pos (h.le0 hi hl)]
  · have hn' := rk_by (by omega) hn
    rw [f_X12_sumsUp_b5, if_neg h.nle0, byte_at h.1 h.2.1 hi hl, bnd2_e, if_neg (show ¬ nI (byN t len i) = (43 : Int32) from by_ne ht hn' (c := 43) (by omega) rfl), byte_at h.1 h.2.1 hi hl, bnd2_e, if_neg (show ¬ nI (byN t len i) = (45 : Int32) from by_ne ht hn' (c := 45) (by omega) rfl)]
  · have hs := rk3 _ (ht i) hk
    have hby := byte_at h.1 h.2.1 (show i ≤ len by omega) hl
    rw [show byN t len i = t i from if_pos e] at hby
    rw [f_X12_sumsUp_b5, if_neg h.nle0, hby, bnd2_e]
    unfold f_X12_sumsUp_b30 f_X12_sumsUp_b44
    rcases hs with hs | hs
    · rw [hs] at hby ⊢
      rw [if_pos (show nI 43 = (43 : Int32) from rfl), hby, bnd2_e, if_pos (show nI 43 = (43 : Int32) from rfl), h.2.1, nI_p1]
      rfl
    · rw [hs] at hby ⊢
      rw [if_neg (show ¬ nI 45 = (43 : Int32) by decide), hby, bnd2_e, if_pos (show nI 45 = (45 : Int32) from rfl), hby, bnd2_e, if_neg (show ¬ nI 45 = (43 : Int32) by decide), h.2.1, nI_p1]
      rfl
theorem lp_both {t : Nat → Nat} {len o : Nat} (hl : len ≤ 120) (ht : ∀ x, t x < 256) (N : St → Option (Int32 × St)) : LpP t len o 1 N (f_X12_both_b5 N) := by
  refine ⟨fun f τ v i h hi => ?_, fun f τ v i h hi hn => ?_, fun f τ v i h e hk => ?_⟩
  · rw [f_X12_both_b5, takes_F h (by omega), bnd2_e, if_pos rfl]
  · have hn' := rk_by (by omega) hn
    rw [f_X12_both_b5, show f_X12_takes τ (38 : Int32) = _ from takes_M h hi hl ht (c := 38) (by omega), if_neg (fun z => hn' (by rw [z]; rfl)), bnd2_e, if_pos rfl]
  · have hs := rk1 _ (ht i) hk
    rw [f_X12_both_b5, show f_X12_takes τ (38 : Int32) = _ from takes_M h (by omega) hl ht (c := 38) (by omega), if_pos ((show byN t len i = t i from if_pos e).trans hs), bnd2_e, if_neg one_n0, hs]
    refine congrArg (bnd2 _) (funext fun w => funext fun τ1 => ?_)
    by_cases h1 : v = 0
    · rw [if_pos h1, show opv 38 v w = 0 from if_pos h1]
    · rw [if_neg h1]
      by_cases h2 : w = 0
      · rw [if_pos h2, show opv 38 v w = 0 from (if_neg h1).trans (if_pos h2)]
      · rw [if_neg h2, show opv 38 v w = 1 from (if_neg h1).trans (if_neg h2)]
theorem lp_either {t : Nat → Nat} {len o : Nat} (hl : len ≤ 120) (ht : ∀ x, t x < 256) (N : St → Option (Int32 × St)) : LpP t len o 0 N (f_X12_either_b5 N) := by
  refine ⟨fun f τ v i h hi => ?_, fun f τ v i h hi hn => ?_, fun f τ v i h e hk => ?_⟩
  · rw [f_X12_either_b5, takes_F h (by omega), bnd2_e, if_pos rfl]
  · have hn' := rk_by (by omega) hn
    rw [f_X12_either_b5, show f_X12_takes τ (124 : Int32) = _ from takes_M h hi hl ht (c := 124) (by omega), if_neg (fun z => hn' (by rw [z]; rfl)), bnd2_e, if_pos rfl]
  · have hs := rk0 _ (ht i) hk
    rw [f_X12_either_b5, show f_X12_takes τ (124 : Int32) = _ from takes_M h (by omega) hl ht (c := 124) (by omega), if_pos ((show byN t len i = t i from if_pos e).trans hs), bnd2_e, if_neg one_n0, hs]
    refine congrArg (bnd2 _) (funext fun w => funext fun τ1 => ?_)
    by_cases h1 : v = 0
    · rw [if_pos h1]
      by_cases h2 : w = 0
      · rw [if_pos h2, show opv 124 v w = 0 from (if_pos h1).trans (if_pos h2)]
      · rw [if_neg h2, show opv 124 v w = 1 from (if_pos h1).trans (if_neg h2)]
    · rw [if_neg h1, show opv 124 v w = 1 from if_neg h1]
theorem cmp37 {t : Nat → Nat} {len i o : Nat} {τ : St} (h : MSt t len i o τ) (N : St → Option (Int32 × St)) (v : Int32) {s : Nat} (hs : s = 60 ∨ s = 61 ∨ s = 62) : f_X12_compared_b37 N τ v (nI s) = bnd2 (N (sI τ 614 0 (nI (i + 1)))) (fun w τ1 => some (opv s v w, τ1)) := by
  unfold f_X12_compared_b37
  rw [h.2.1, nI_p1]
  refine congrArg (bnd2 _) (funext fun w => funext fun τ1 => ?_)
  rcases hs with hs | hs | hs
  · subst hs
    rw [if_pos (show nI 60 = (60 : Int32) from rfl)]
    by_cases h1 : w ≤ v
    · rw [if_pos h1, show opv 60 v w = 0 from if_pos h1]
    · rw [if_neg h1, show opv 60 v w = 1 from if_neg h1]
  · subst hs
    rw [if_neg (show ¬ nI 61 = (60 : Int32) by decide), if_pos (show nI 61 = (61 : Int32) from rfl)]
    by_cases h1 : v = w
    · rw [if_pos h1, show opv 61 v w = 1 from if_pos h1]
    · rw [if_neg h1, show opv 61 v w = 0 from if_neg h1]
  · subst hs
    rw [if_neg (show ¬ nI 62 = (60 : Int32) by decide), if_neg (show ¬ nI 62 = (61 : Int32) by decide)]
    by_cases h1 : v ≤ w
    · rw [if_pos h1, show opv 62 v w = 0 from if_pos h1]
    · rw [if_neg h1, show opv 62 v w = 1 from if_neg h1]
theorem rank2_N {t : Nat → Nat} {len j : Nat} (hl : len ≤ 120) (ht : ∀ x, t x < 256) {rr : St → Int32 → Int32 → Option (Int32 × St)} {ro : St → Int32 → Option (Int32 × St)} {N : St → Option (Int32 × St)} {o : Nat} (HN : ∀ i, i ≤ len → NT t len j (fun σ => rr σ (nI (2 + 1)) (nI o)) N i o) : ∀ i, i ≤ len → NT t len j (fun σ => f_X7_readRank1 rr ro σ (nI 2) (nI o)) (f_X12_compared1 N) i o := by
  intro i hi
  obtain ⟨b0, i1, c0, g0, n1, n2, n3, n4, n5, n6⟩ := HN i hi
  have hcl : ∀ σ σ1 x, rr σ (nI (2 + 1)) (nI o) = some (x, σ1) → f_X7_readRank1 rr ro σ (nI 2) (nI o) = chkB (f_X7_readRank_b36 rr ro 256 σ1 (nI 2) (nI o) x 1 0) := by
    intro σ σ1 x hx
    unfold f_X7_readRank1 f_X7_readRank10
    rw [if_pos (show nI 2 < (5 : Int32) by decide), nI_p1, hx, bnd2_e, if_pos (show nI 2 = (2 : Int32) from rfl)]
  cases b0 with
  | false =>
    refine ⟨false, i1, [], fun _ => 0, n1, n2, nofun, fun L σ hL h => ?_, fun τ h => ?_, nofun⟩
    · obtain ⟨σ', L', q1, q2, q3, _⟩ := n4 L σ hL h
      refine ⟨σ', L', ?_, q2, q3, nofun⟩
      show f_X7_readRank1 rr ro σ (nI 2) (nI o) = _
      rw [hcl σ σ' _ q1]
      exact (congrArg chkB (rank_zero 255 σ' _ _ _ _)).trans (chkB_0 σ')
    · obtain ⟨v, τ', q1, q2, q3, q4⟩ := n5 τ h
      refine ⟨v, τ', ?_, q2, nofun, fun _ => q4 rfl⟩
      obtain ⟨x, hx⟩ := byF (q4 rfl) hl
      unfold f_X12_compared1
      rw [q1, bnd2_e, hx, bnd2_e, if_pos ((q4 rfl).le0 n2 hl)]
  | true =>
    by_cases hs : i1 < len ∧ rkN (t i1) = 2
    · obtain ⟨e, hk⟩ := hs
      obtain ⟨b1, i2, c1, g1, m1, m2, m3, m4, m5, m6⟩ := HN (i1 + 1) e
      obtain ⟨s1, s2⟩ := rk_sgn (t i1) (ht i1) (by omega)
      have hsg := rk2 _ (ht i1) hk
      have n3' := n3 rfl
      refine ⟨b1, i2, c0 ++ c1 ++ [-nI (t i1)], fun e => opv (t i1) (g0 e) (g1 e), by omega, m2, fun hb => ?_, fun L σ hL h => ?_, fun τ h => ?_, fun hb => seg_bin s1 s2 (n6 rfl) (m6 hb)⟩
      · have := m3 hb
        rw [len_a1, List.length_append]
        omega
      · obtain ⟨σ', L', q1, q2, q3, q4⟩ := n4 L σ hL h
        obtain ⟨x1, x2, x3⟩ := q4 rfl
        rw [x1] at q2
        obtain ⟨σ2, L2, w1, w2, w3, w4⟩ := rank_step (ro := ro) hl ht (r := 2) (by omega) e hk m3 m2 m4 (by omega) q2 x2 255 (show ¬ (1 : Int32) ≤ 0 by decide)
        refine ⟨σ2, L2, ?_, w2, q3.tr w3, fun hb => ?_⟩
        · show f_X7_readRank1 rr ro σ (nI 2) (nI o) = _
          rw [hcl σ σ' _ q1]
          refine (congrArg chkB (w1.trans (rank_full 254 σ2 _ _ _ _ _ (by decide)))).trans (chkB_tfb b1 σ2)
        · obtain ⟨y1, y2, y3⟩ := w4 hb
          exact ⟨y1, y2, fun x hx => (y3 x hx).trans (x3 x hx)⟩
      · obtain ⟨v, τ', q1, q2, q3, q4⟩ := n5 τ h
        obtain ⟨p1, p2⟩ := q3 rfl
        obtain ⟨hR, hF⟩ := p1.mv (i1 + 1)
        obtain ⟨w, τ2, w1, w2, w3, w4⟩ := m5 _ hR
        have hF2 := q2.tr hF
        rw [hF2.e618] at w3
        refine ⟨opv (t i1) v w, τ2, ?_, hF2.tr w2, fun hb => ⟨(w3 hb).1, ?_⟩, w4⟩
        · unfold f_X12_compared1
          rw [q1, bnd2_e, byte_at p1.1 p1.2.1 n2 hl, bnd2_e, if_neg p1.nle0, show byN t len i1 = t i1 from if_pos e]
          have e37 := cmp37 p1 N v hsg
          rw [w1, bnd2_e] at e37
          rcases hsg with z | z | z
          · rw [if_pos (show nI (t i1) = (60 : Int32) from congrArg nI z)]
            exact e37
          · rw [if_neg (show ¬ nI (t i1) = (60 : Int32) from by rw [z]; decide), if_pos (show nI (t i1) = (61 : Int32) from congrArg nI z)]
            exact e37
          · rw [if_neg (show ¬ nI (t i1) = (60 : Int32) from by rw [z]; decide), if_neg (show ¬ nI (t i1) = (61 : Int32) from by rw [z]; decide), if_pos (show nI (t i1) = (62 : Int32) from congrArg nI z)]
            exact e37
        · rw [p2, (w3 hb).2]
    · refine ⟨true, i1, c0, g0, n1, n2, n3, fun L σ hL h => ?_, fun τ h => ?_, n6⟩
      · obtain ⟨σ', L', q1, q2, q3, q4⟩ := n4 L σ hL h
        refine ⟨σ', L', ?_, q2, q3, q4⟩
        show f_X7_readRank1 rr ro σ (nI 2) (nI o) = _
        rw [hcl σ σ' _ q1]
        exact (congrArg chkB ((rank_end hl ht (by omega) q2 hs 255 _ _ _ _).resolve_right (by omega))).trans (chkB_tfb true σ')
      · obtain ⟨v, τ', q1, q2, q3, q4⟩ := n5 τ h
        obtain ⟨p1, p2⟩ := q3 rfl
        have hn' := rk_by (by omega) hs
        refine ⟨v, τ', ?_, q2, q3, q4⟩
        unfold f_X12_compared1
        rw [q1, bnd2_e, byte_at p1.1 p1.2.1 n2 hl, bnd2_e, if_neg p1.nle0, if_neg (show ¬ nI (byN t len i1) = (60 : Int32) from by_ne ht hn' (c := 60) (by omega) rfl), if_neg (show ¬ nI (byN t len i1) = (61 : Int32) from by_ne ht hn' (c := 61) (by omega) rfl), if_neg (show ¬ nI (byN t len i1) = (62 : Int32) from by_ne ht hn' (c := 62) (by omega) rfl)]
theorem bnd2_id (x : Option (Int32 × St)) : bnd2 x (fun r σ => some (r, σ)) = x := by
  cases x with
  | none => rfl
  | some p => rfl
theorem rank_all {t : Nat → Nat} {len j : Nat} (hl : len ≤ 120) (ht : ∀ x, t x < 256) {G o : Nat} {M : St → Option (Int32 × St)} (H : ∀ i, i ≤ len → NT t len j (fun σ => (rdG G).2.1 σ (nI o)) M i o) : ∀ i, i ≤ len → NT t len j (fun σ => (rdG (G + 6)).1 σ (nI 0) (nI o)) (f_X12_either1 (f_X12_both1 (f_X12_compared1 (f_X12_sumsUp1 (f_X12_product1 M))))) i o := by
  have H5 : ∀ i, i ≤ len → NT t len j (fun σ => (rdG (G + 1)).1 σ (nI (4 + 1)) (nI o)) M i o := by
    intro i hi
    obtain ⟨b, i2, c, g, n1, n2, n3, n4, n5, n6⟩ := H i hi
    refine ⟨b, i2, c, g, n1, n2, n3, fun L σ hL h => ?_, n5, n6⟩
    obtain ⟨σ', L', q1, q2, q3, q4⟩ := n4 L σ hL h
    refine ⟨σ', L', ?_, q2, q3, q4⟩
    have q1' : (rdG G).2.1 σ (nI o) = some (tf (b = true), σ') := q1
    show f_X7_readRank1 (rdG G).1 (rdG G).2.1 σ (nI (4 + 1)) (nI o) = _
    unfold f_X7_readRank1 f_X7_readRank10
    rw [if_neg (show ¬ nI (4 + 1) < (5 : Int32) by decide), bnd2_id, q1']
    exact chkB_tfb b σ'
  have H4 := rank_N (ro := (rdG (G + 1)).2.1) hl ht (r := 4) (by omega) (by omega) H5 (lp_prod hl ht M)
  have H3 := rank_N (rr := (rdG (G + 2)).1) (ro := (rdG (G + 2)).2.1) hl ht (r := 3) (by omega) (by omega) H4 (lp_sum hl ht _)
  have H2 := rank2_N (rr := (rdG (G + 3)).1) (ro := (rdG (G + 3)).2.1) hl ht H3
  have H1 := rank_N (rr := (rdG (G + 4)).1) (ro := (rdG (G + 4)).2.1) hl ht (r := 1) (by omega) (by omega) H2 (lp_both hl ht _)
  exact rank_N (rr := (rdG (G + 5)).1) (ro := (rdG (G + 5)).2.1) hl ht (r := 0) (by omega) (by omega) H1 (lp_either hl ht _)
