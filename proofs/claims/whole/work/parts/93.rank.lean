/-! reading THE TAPE: ranks -/
theorem rk_sgn : ∀ c, c < 256 → rkN c < 5 → c ∈ sgnL ∧ ary c = 2 := by decide +kernel
theorem rank_step {t : Nat → Nat} {len j : Nat} (hl : len ≤ 120) (ht : ∀ x, t x < 256) {rr : St → Int32 → Int32 → Option (Int32 × St)} {ro : St → Int32 → Option (Int32 × St)} {r o i : Nat} (hr : r < 5) (e : i < len) (hk : rkN (t i) = r) {b1 : Bool} {i2 : Nat} {c1 : List Int32} (hb : b1 = true → i + 1 + c1.length ≤ i2) (hi2 : i2 ≤ len) (hN : CC t len j (fun σ => rr σ (nI (r + 1)) (nI o)) (i + 1) b1 i2 c1) {c : List Int32} {L : Nat} {σ : St} (hL : L + c.length ≤ i) (h : RS t len j i (L + c.length) σ) (hc : CdAt σ j L c) (f : Nat) {x4 x5 : Int32} (h45 : ¬ x4 ≤ x5) : ∃ σ' L', f_X7_readRank_b36 rr ro (f + 1) σ (nI r) (nI o) 1 x4 x5 = f_X7_readRank_b36 rr ro f σ' (nI r) (nI o) (tf (b1 = true)) x4 (x5 + 1) ∧ RS t len j i2 L' σ' ∧ FrR j σ σ' ∧ (b1 = true → L' = L + (c ++ c1 ++ [-nI (t i)]).length ∧ CdAt σ' j L (c ++ c1 ++ [-nI (t i)]) ∧ ∀ x, x < L → σ'.2.2.1 200 j x = σ.2.2.1 200 j x) := by
  obtain ⟨hR, hF⟩ := h.mv (i + 1)
  obtain ⟨σ1, L1, q1, q2, q3, q4⟩ := hN (L + c.length) _ (by omega) hR
  obtain ⟨σ2, L2, w1, w2, w3, w4⟩ := emit_C q2 (-nI (t i))
  refine ⟨σ2, L2, ?_, w2, (hF.tr q3).tr w3, fun hb1 => ?_⟩
  · obtain ⟨a1, a2, a3, a4, a5, a6⟩ := h
    have hti := ht i
    have q1' : rr (sI σ 352 0 (nI (i + 1))) (nI (r + 1)) (nI o) = some (tf (b1 = true), σ1) := q1
    rw [f_X7_readRank_b36, if_neg h45, if_neg one_n0, a1, a4, if_neg (nI_ge e (by omega)), chk_in (show i < 120 by omega) (by omega), chk_in (show i < 120 by omega) (by omega), nI_clamp (by omega), a2 i e, rankOf_e _ hti, bnd1_e, hk, if_neg (show ¬ r = 9 by omega), if_pos rfl, bnd_e, nI_p1, nI_p1, q1', bnd2_e, RS.dr q2, w1, bnd1_e, bnd_e]
  · obtain ⟨x1, x2, x3⟩ := q4 hb1
    have hb' := hb hb1
    obtain ⟨y1, y2, y3⟩ := w4 (by omega)
    have x3' : ∀ x, x < L + c.length → σ1.2.2.1 200 j x = σ.2.2.1 200 j x := x3
    refine ⟨by rw [len_a1, List.length_append]; omega, ?_, fun x hx => (y3 x (by omega)).trans (x3' x (by omega))⟩
    have d1 : CdAt σ2 j L c := cd_same (cd_same hc x3' (Nat.le_refl _)) y3 (by omega)
    have d2 : CdAt σ2 j (L + c.length) c1 := cd_same x2 y3 (by omega)
    refine cd_app (cd_app d1 d2) (cd_one ?_)
    rw [List.length_append, show L + (c.length + c1.length) = L1 by omega]
    exact y2
/-- the loop ends with what it has -/
theorem rank_end {t : Nat → Nat} {len j : Nat} (hl : len ≤ 120) (ht : ∀ x, t x < 256) {rr : St → Int32 → Int32 → Option (Int32 × St)} {ro : St → Int32 → Option (Int32 × St)} {r i L : Nat} (hr : r < 5) {σ : St} (h : RS t len j i L σ) (hs : ¬ (i < len ∧ rkN (t i) = r)) (f : Nat) (x2 x3 x4 x5 : Int32) : f_X7_readRank_b36 rr ro (f + 1) σ (nI r) x2 x3 x4 x5 = some (x3, σ) ∨ i > len := by
  by_cases hi : i > len
  · exact Or.inr hi
  refine Or.inl ?_
  obtain ⟨a1, a2, a3, a4, a5, a6⟩ := h
  have hti := ht i
  rw [f_X7_readRank_b36]
  by_cases h1 : x4 ≤ x5
  · rw [if_pos h1]
  rw [if_neg h1]
  by_cases h2 : x3 = 0
  · rw [if_pos h2]
  rw [if_neg h2, a1, a4]
  by_cases e : i < len
  · have hk : ¬ rkN (t i) = r := fun z => hs ⟨e, z⟩
    rw [if_neg (nI_ge e (by omega)), chk_in (show i < 120 by omega) (by omega), nI_clamp (by omega), a2 i e, rankOf_e _ hti, bnd1_e]
    by_cases h9 : rkN (t i) = 9
    · rw [if_pos h9, if_neg (show ¬ (-1 : Int32) = nI r from fun z => nI_n0 (show r < 2 ^ 31 by omega) (by rw [← z]; decide))]
    · have hb : rkN (t i) ≤ 9 := by
        unfold rkN
        repeat' split
        all_goals omega
      rw [if_neg h9, if_neg (nI_lit_ne hk (by omega) (by omega))]
  · rw [if_pos (nI_le (Nat.not_lt.mp e) (by omega))]
theorem rank_zero {rr : St → Int32 → Int32 → Option (Int32 × St)} {ro : St → Int32 → Option (Int32 × St)} (f : Nat) (σ : St) (x1 x2 x4 x5 : Int32) : f_X7_readRank_b36 rr ro (f + 1) σ x1 x2 0 x4 x5 = some (0, σ) := by
  rw [f_X7_readRank_b36]
  by_cases h1 : x4 ≤ x5
  · rw [if_pos h1]
  · rw [if_neg h1, if_pos rfl]
theorem rank_full {rr : St → Int32 → Int32 → Option (Int32 × St)} {ro : St → Int32 → Option (Int32 × St)} (f : Nat) (σ : St) (x1 x2 x3 x4 x5 : Int32) (h : x4 ≤ x5) : f_X7_readRank_b36 rr ro (f + 1) σ x1 x2 x3 x4 x5 = some (x3, σ) := by
  rw [f_X7_readRank_b36, if_pos h]
/-- the model's loop of one rank -/
def LpP (t : Nat → Nat) (len o r : Nat) (N : St → Option (Int32 × St)) (Lp : Nat → St → Int32 → Option (Int32 × St)) : Prop := (∀ f τ v i, MF t len i τ → i ≤ len → Lp (f + 1) τ v = some (v, τ)) ∧ (∀ f τ v i, MSt t len i o τ → i ≤ len → ¬ (i < len ∧ rkN (t i) = r) → Lp (f + 1) τ v = some (v, τ)) ∧ (∀ f τ v i, MSt t len i o τ → i < len → rkN (t i) = r → Lp (f + 1) τ v = bnd2 (N (sI τ 614 0 (nI (i + 1)))) (fun w τ1 => Lp f τ1 (opv (t i) v w)))
theorem FrP.e618 {τ τ' : St} (h : FrP τ τ') : τ'.2.2.1 618 0 = τ.2.2.1 618 0 := by rw [h.1]
theorem rank_loop {t : Nat → Nat} {len j : Nat} (hl : len ≤ 120) (ht : ∀ x, t x < 256) {rr : St → Int32 → Int32 → Option (Int32 × St)} {ro : St → Int32 → Option (Int32 × St)} {N : St → Option (Int32 × St)} {Lp : Nat → St → Int32 → Option (Int32 × St)} {r o : Nat} (hr : r < 5) (HN : ∀ i, i ≤ len → NT t len j (fun σ => rr σ (nI (r + 1)) (nI o)) N i o) (hP : LpP t len o r N Lp) : ∀ m i, len - i ≤ m → ∀ i0 c g, i0 ≤ i → i ≤ len → i0 + c.length ≤ i → Seg c g → ∃ (b : Bool) (i2 : Nat) (c2 : List Int32) (g2 : GF), i ≤ i2 ∧ i2 ≤ len ∧ (b = true → i0 + c2.length ≤ i2) ∧ (∀ L k f σ, L ≤ i0 → k ≤ i → len - i < f → RS t len j i (L + c.length) σ → CdAt σ j L c → ∃ σ' L', f_X7_readRank_b36 rr ro f σ (nI r) (nI o) 1 120 (nI k) = some (tf (b = true), σ') ∧ RS t len j i2 L' σ' ∧ FrR j σ σ' ∧ (b = true → L' = L + c2.length ∧ CdAt σ' j L c2 ∧ ∀ x, x < L → σ'.2.2.1 200 j x = σ.2.2.1 200 j x)) ∧ (∀ τ f, MSt t len i o τ → len - i < f → ∃ v τ', Lp f τ (g (evN (τ.2.2.1 618 0))) = some (v, τ') ∧ FrP τ τ' ∧ (b = true → MSt t len i2 o τ' ∧ v = g2 (evN (τ.2.2.1 618 0))) ∧ (b = false → MF t len i2 τ')) ∧ (b = true → Seg c2 g2) := by
  intro m
  induction m with
  | zero =>
    intro i hm i0 c g h0 hi hc hg
    refine ⟨true, i, c, g, Nat.le_refl _, hi, fun _ => hc, fun L k f σ hL hk hf h hcd => ?_, fun τ f h hf => ?_, fun _ => hg⟩
    · obtain ⟨f, rfl⟩ : ∃ x, f = x + 1 := ⟨f - 1, by omega⟩
      exact ⟨σ, _, (rank_end hl ht hr h (by omega) f (nI o) 1 120 (nI k)).resolve_right (by omega), h, FrR.rf j σ, fun _ => ⟨rfl, hcd, fun _ _ => rfl⟩⟩
    · obtain ⟨f, rfl⟩ : ∃ x, f = x + 1 := ⟨f - 1, by omega⟩
      exact ⟨_, τ, hP.2.1 f τ _ i h hi (by omega), FrP.rf τ, fun _ => ⟨h, rfl⟩, nofun⟩
  | succ m ih =>
    intro i hm i0 c g h0 hi hc hg
    by_cases hs : i < len ∧ rkN (t i) = r
    · obtain ⟨e, hk⟩ := hs
      obtain ⟨b1, i2, c1, g1, n1, n2, n3, n4, n5, n6⟩ := HN (i + 1) e
      obtain ⟨s1, s2⟩ := rk_sgn (t i) (ht i) (by omega)
      cases b1 with
      | false =>
        refine ⟨false, i2, [], fun _ => 0, by omega, n2, nofun, fun L k f σ hL hkk hf h hcd => ?_, fun τ f h hf => ?_, nofun⟩
        · obtain ⟨f, rfl⟩ : ∃ x, f = x + 1 + 1 := ⟨f - 2, by omega⟩
          obtain ⟨σ', L', q1, q2, q3, _⟩ := rank_step (ro := ro) hl ht hr e hk n3 n2 n4 (by omega) h hcd (f + 1) (show ¬ (120 : Int32) ≤ nI k from nI_ge (b := 120) (by omega) (by omega))
          exact ⟨σ', L', q1.trans (rank_zero f σ' _ _ _ _), q2, q3, nofun⟩
        · obtain ⟨f, rfl⟩ : ∃ x, f = x + 1 + 1 := ⟨f - 2, by omega⟩
          obtain ⟨hR, hF⟩ := h.mv (i + 1)
          obtain ⟨v, τ', q1, q2, q3, q4⟩ := n5 _ hR
          rw [hP.2.2 (f + 1) τ _ i h e hk, q1, bnd2_e, hP.1 f τ' _ i2 (q4 rfl) n2]
          exact ⟨_, τ', rfl, hF.tr q2, nofun, fun _ => q4 rfl⟩
      | true =>
        have n3' := n3 rfl
        have hlen : (c ++ c1 ++ [-nI (t i)]).length = c.length + c1.length + 1 := by rw [len_a1, List.length_append]
        obtain ⟨b, i3, c2, g2, m1, m2, m3, m4, m5, m6⟩ := ih i2 (by omega) i0 (c ++ c1 ++ [-nI (t i)]) (fun e => opv (t i) (g e) (g1 e)) (by omega) n2 (by omega) (seg_bin s1 s2 hg (n6 rfl))
        refine ⟨b, i3, c2, g2, by omega, m2, m3, fun L k f σ hL hkk hf h hcd => ?_, fun τ f h hf => ?_, m6⟩
        · obtain ⟨f, rfl⟩ : ∃ x, f = x + 1 := ⟨f - 1, by omega⟩
          obtain ⟨σ', L', q1, q2, q3, q4⟩ := rank_step (ro := ro) hl ht hr e hk n3 n2 n4 (by omega) h hcd f (show ¬ (120 : Int32) ≤ nI k from nI_ge (b := 120) (by omega) (by omega))
          obtain ⟨x1, x2, x3⟩ := q4 rfl
          rw [x1] at q2
          obtain ⟨σ2, L2, w1, w2, w3, w4⟩ := m4 L (k + 1) f σ' hL (by omega) (by omega) q2 x2
          refine ⟨σ2, L2, ?_, w2, q3.tr w3, fun hb => ?_⟩
          · rw [q1, nI_p1]
            exact w1
          · obtain ⟨y1, y2, y3⟩ := w4 hb
            exact ⟨y1, y2, fun x hx => (y3 x hx).trans (x3 x hx)⟩
        · obtain ⟨f, rfl⟩ : ∃ x, f = x + 1 := ⟨f - 1, by omega⟩
          obtain ⟨hR, hF⟩ := h.mv (i + 1)
          obtain ⟨v, τ', q1, q2, q3, q4⟩ := n5 _ hR
          obtain ⟨p1, p2⟩ := q3 rfl
          have hF2 := hF.tr q2
          obtain ⟨v2, τ2, w1, w2, w3, w4⟩ := m5 τ' f p1 (by omega)
          have e618 := hF2.e618
          rw [e618] at w1 w3
          have p2' : v = g1 (evN (τ.2.2.1 618 0)) := p2
          rw [hP.2.2 f τ _ i h e hk, q1, bnd2_e, p2', w1]
          exact ⟨v2, τ2, rfl, hF2.tr w2, w3, w4⟩
    · refine ⟨true, i, c, g, Nat.le_refl _, hi, fun _ => hc, fun L k f σ hL hk hf h hcd => ?_, fun τ f h hf => ?_, fun _ => hg⟩
      · obtain ⟨f, rfl⟩ : ∃ x, f = x + 1 := ⟨f - 1, by omega⟩
        exact ⟨σ, _, (rank_end hl ht hr h hs f (nI o) 1 120 (nI k)).resolve_right (by omega), h, FrR.rf j σ, fun _ => ⟨rfl, hcd, fun _ _ => rfl⟩⟩
      · obtain ⟨f, rfl⟩ : ∃ x, f = x + 1 := ⟨f - 1, by omega⟩
        exact ⟨_, τ, hP.2.1 f τ _ i h hi hs, FrP.rf τ, fun _ => ⟨h, rfl⟩, nofun⟩
theorem chkB_tfb (b : Bool) (u : St) : chkB (some (tf (b = true), u)) = some (tf (b = true), u) := chkB_tf
theorem rank_N {t : Nat → Nat} {len j : Nat} (hl : len ≤ 120) (ht : ∀ x, t x < 256) {rr : St → Int32 → Int32 → Option (Int32 × St)} {ro : St → Int32 → Option (Int32 × St)} {N : St → Option (Int32 × St)} {Lp : Nat → St → Int32 → Option (Int32 × St)} {r o : Nat} (hr : r < 5) (hr2 : ¬ r = 2) (HN : ∀ i, i ≤ len → NT t len j (fun σ => rr σ (nI (r + 1)) (nI o)) N i o) (hP : LpP t len o r N Lp) : ∀ i, i ≤ len → NT t len j (fun σ => f_X7_readRank1 rr ro σ (nI r) (nI o)) (fun τ => bnd2 (N τ) (fun v τ1 => Lp 256 τ1 v)) i o := by
  intro i hi
  obtain ⟨b0, i1, c0, g0, n1, n2, n3, n4, n5, n6⟩ := HN i hi
  have hcl : ∀ σ σ1 x, rr σ (nI (r + 1)) (nI o) = some (x, σ1) → f_X7_readRank1 rr ro σ (nI r) (nI o) = chkB (f_X7_readRank_b36 rr ro 256 σ1 (nI r) (nI o) x 120 0) := by
    intro σ σ1 x hx
    unfold f_X7_readRank1 f_X7_readRank10
    rw [if_pos (show nI r < (5 : Int32) from nI_lt (b := 5) hr (by omega)), nI_p1, hx, bnd2_e, if_neg (show ¬ nI r = (2 : Int32) from nI_lit_ne (m := 2) hr2 (by omega) (by omega))]
  cases b0 with
  | false =>
    refine ⟨false, i1, [], fun _ => 0, n1, n2, nofun, fun L σ hL h => ?_, fun τ h => ?_, nofun⟩
    · obtain ⟨σ', L', q1, q2, q3, _⟩ := n4 L σ hL h
      refine ⟨σ', L', ?_, q2, q3, nofun⟩
      show f_X7_readRank1 rr ro σ (nI r) (nI o) = _
      rw [hcl σ σ' _ q1]
      exact (congrArg chkB (rank_zero 255 σ' _ _ _ _)).trans (chkB_0 σ')
    · obtain ⟨v, τ', q1, q2, q3, q4⟩ := n5 τ h
      refine ⟨v, τ', ?_, q2, nofun, fun _ => q4 rfl⟩
      show bnd2 (N τ) _ = _
      rw [q1, bnd2_e]
      exact hP.1 255 τ' v i1 (q4 rfl) n2
  | true =>
    obtain ⟨b, i2, c2, g2, m1, m2, m3, m4, m5, m6⟩ := rank_loop (ro := ro) hl ht hr HN hP (len - i1) i1 (Nat.le_refl _) i c0 g0 n1 n2 (n3 rfl) (n6 rfl)
    refine ⟨b, i2, c2, g2, by omega, m2, m3, fun L σ hL h => ?_, fun τ h => ?_, m6⟩
    · obtain ⟨σ', L', q1, q2, q3, q4⟩ := n4 L σ hL h
      obtain ⟨x1, x2, x3⟩ := q4 rfl
      rw [x1] at q2
      obtain ⟨σ2, L2, w1, w2, w3, w4⟩ := m4 L 0 256 σ' hL (Nat.zero_le _) (by omega) q2 x2
      refine ⟨σ2, L2, ?_, w2, q3.tr w3, fun hb => ?_⟩
      · show f_X7_readRank1 rr ro σ (nI r) (nI o) = _
        rw [hcl σ σ' _ q1]
        exact (congrArg chkB w1).trans (chkB_tfb b σ2)
      · obtain ⟨y1, y2, y3⟩ := w4 hb
        exact ⟨y1, y2, fun x hx => (y3 x hx).trans (x3 x hx)⟩
    · obtain ⟨v, τ', q1, q2, q3, q4⟩ := n5 τ h
      obtain ⟨p1, p2⟩ := q3 rfl
      obtain ⟨v2, τ2, w1, w2, w3, w4⟩ := m5 τ' 256 p1 (by omega)
      rw [q2.e618] at w1 w3
      refine ⟨v2, τ2, ?_, q2.tr w2, w3, w4⟩
      show bnd2 (N τ) _ = _
      rw [q1, bnd2_e, p2]
      exact w1
