/-! reading THE TAPE: signs before an operand, and brackets -/
theorem sign_C {t : Nat → Nat} {len j i L : Nat} {σ : St} (hl : len ≤ 120) (ht : ∀ x, t x < 256) (h : RS t len j i L σ) (e : i < len) (hs : t i = 33 ∨ t i = 45 ∨ t i = 40) (rO rC : St → Int32 → Option (Int32 × St)) (o : Nat) : f_X7_readOperand1 rO rC σ (nI o) = chkB (if (6 : Int32) ≤ nI o then some (0, σ) else f_X7_readOperand_b96 rO rC σ (nI o) (nI (t i))) := by
  obtain ⟨a1, a2, a3, a4, a5, a6⟩ := h
  have hti := ht i
  have hn : nmB (t i) = -1 := nmB_s _ hti (by rcases hs with z | z | z <;> omega)
  unfold f_X7_readOperand1 f_X7_readOperand10
  rw [a4, a1, if_pos (nI_lt e (by omega)), chk_in (show i < 120 by omega) (by omega), nI_clamp (by omega), a2 i e, bnd_e, digit_e _ hti, bnd1_e, tf_f (show ¬ (48 ≤ t i ∧ t i ≤ 57) by omega), if_pos rfl, idxN_e _ hti, hn, bnd_e, if_pos (show (-1 : Int32) < 0 by decide)]
  by_cases h6 : (6 : Int32) ≤ nI o
  · rw [if_pos h6, if_pos h6]
  · rw [if_neg h6, if_neg h6]
    rcases hs with z | z | z
    · rw [z, if_neg (show ¬ nI 33 = (40 : Int32) by decide), if_pos (show nI 33 = (33 : Int32) from rfl)]
    · rw [z, if_neg (show ¬ nI 45 = (40 : Int32) by decide), if_neg (show ¬ nI 45 = (33 : Int32) by decide), if_pos (show nI 45 = (45 : Int32) from rfl)]
    · rw [z, if_pos (show nI 40 = (40 : Int32) from rfl)]
theorem sign_M {t : Nat → Nat} {len i o : Nat} {τ : St} (hl : len ≤ 120) (h : MSt t len i o τ) (e : i < len) (hs : t i = 33 ∨ t i = 45 ∨ t i = 40) (rE rM : St → Option (Int32 × St)) : f_X12_one1 rE rM τ = f_X12_one_b32 rE rM τ (nI (t i)) := by
  unfold f_X12_one1
  rw [if_pos (show τ.1 616 0 < 0 by rw [h.2.2.1]; decide), byte_at h.1 h.2.1 (by omega) hl, bnd2_e, show byN t len i = t i from if_pos e]
  rcases hs with z | z | z
  · rw [z, if_pos (show nI 33 = (33 : Int32) from rfl)]
  · rw [z, if_neg (show ¬ nI 45 = (33 : Int32) by decide), if_pos (show nI 45 = (45 : Int32) from rfl)]
  · rw [z, if_neg (show ¬ nI 40 = (33 : Int32) by decide), if_neg (show ¬ nI 40 = (45 : Int32) by decide), if_pos (show nI 40 = (40 : Int32) from rfl)]
theorem MSt.op {t : Nat → Nat} {len i o : Nat} {τ : St} (h : MSt t len i o τ) : MSt t len (i + 1) (o + 1) (sI (sI τ 617 0 (nI (o + 1))) 614 0 (nI (i + 1))) ∧ FrP τ (sI (sI τ 617 0 (nI (o + 1))) 614 0 (nI (i + 1))) := by
  have hf : FrP τ (sI τ 617 0 (nI (o + 1))) := ⟨rfl, fun f x _ _ h3 => if_neg (fun z => h3 z.1)⟩
  have hm : MSt t len i (o + 1) (sI τ 617 0 (nI (o + 1))) := ⟨hf.src h.1, (sI_ne τ _ (by omega)).trans h.2.1, (sI_ne τ _ (by omega)).trans h.2.2.1, sI_at _ _ _ _⟩
  obtain ⟨h1, h2⟩ := hm.mv (i + 1)
  exact ⟨h1, hf.tr h2⟩
theorem MSt.cl {t : Nat → Nat} {len i o : Nat} {τ : St} (h : MSt t len i (o + 1) τ) : MSt t len i o (sI τ 617 0 (τ.1 617 0 - 1)) ∧ FrP τ (sI τ 617 0 (τ.1 617 0 - 1)) := by
  have hf : FrP τ (sI τ 617 0 (τ.1 617 0 - 1)) := ⟨rfl, fun f x _ _ h3 => if_neg (fun z => h3 z.1)⟩
  refine ⟨⟨hf.src h.1, (sI_ne τ _ (by omega)).trans h.2.1, (sI_ne τ _ (by omega)).trans h.2.2.1, ?_⟩, hf⟩
  rw [sI_at, h.2.2.2]
  show nI (o + 1) - nI 1 = nI o
  rw [pk_sub (by omega)]
  rfl
theorem MF.cl {t : Nat → Nat} {len i : Nat} {τ : St} (h : MF t len i τ) (v : Int32) : MF t len i (sI τ 617 0 v) ∧ FrP τ (sI τ 617 0 v) := by
  have hf : FrP τ (sI τ 617 0 v) := ⟨rfl, fun f x _ _ h3 => if_neg (fun z => h3 z.1)⟩
  obtain ⟨h1, ⟨x, h2, h3⟩, h4⟩ := h
  exact ⟨⟨hf.src h1, ⟨x, h2, (sI_ne τ _ (by omega)).trans h3⟩, (sI_ne τ _ (by omega)).trans h4⟩, hf⟩
theorem b32_in {t : Nat → Nat} {len i o : Nat} {τ : St} (h : MSt t len i o τ) (ho : o < 6) (rE rM : St → Option (Int32 × St)) (x1 : Int32) : f_X12_one_b32 rE rM τ x1 = if x1 = (40 : Int32) then bnd2 (rE (sI (sI τ 617 0 (nI (o + 1))) 614 0 (nI (i + 1)))) (fun r19 σ20 => f_X12_one_b83 rE rM σ20 x1 r19) else bnd2 (rM (sI (sI τ 617 0 (nI (o + 1))) 614 0 (nI (i + 1)))) (fun r16 σ17 => f_X12_one_b83 rE rM σ17 x1 r16) := by
  unfold f_X12_one_b32
  rw [h.2.2.2, if_neg (show ¬ nI o = (6 : Int32) from nI_lit_ne (m := 6) (by omega) (by omega) (by omega)), nI_p1, sI_ne τ (f := 617) (o := 0) (f' := 614) (o' := 0) (nI (o + 1)) (by omega), h.2.1, nI_p1, bnd_e]
theorem op_deep {t : Nat → Nat} {len j : Nat} (hl : len ≤ 120) (ht : ∀ x, t x < 256) {rO rC : St → Int32 → Option (Int32 × St)} {rE rM : St → Option (Int32 × St)} {i : Nat} (e : i < len) (hs : t i = 33 ∨ t i = 45 ∨ t i = 40) : NT t len j (fun σ => f_X7_readOperand1 rO rC σ (nI 6)) (f_X12_one1 rE rM) i 6 := by
  refine nt_fail (by omega) (fun L σ h => ?_) (fun τ h => ?_)
  · show f_X7_readOperand1 rO rC σ (nI 6) = _
    rw [sign_C hl ht h e hs rO rC 6, if_pos (show (6 : Int32) ≤ nI 6 by decide)]
    exact chkB_0 σ
  · obtain ⟨τ', w1, w2, w3⟩ := wrong_M h (by omega)
    refine ⟨0, τ', ?_, w2, w3⟩
    rw [sign_M hl h e hs]
    unfold f_X12_one_b32
    rw [if_pos (show τ.1 617 0 = (6 : Int32) from h.2.2.2), w1, bnd2_e]
theorem op_un {t : Nat → Nat} {len j : Nat} (hl : len ≤ 120) (ht : ∀ x, t x < 256) {rO rC : St → Int32 → Option (Int32 × St)} {rE rM : St → Option (Int32 × St)} {i o s : Nat} (ho : o < 6) (e : i < len) (hs : (t i = 45 ∧ s = 126) ∨ (t i = 33 ∧ s = 33)) (H : NT t len j (fun σ => rO σ (nI (o + 1))) rM (i + 1) (o + 1)) : NT t len j (fun σ => f_X7_readOperand1 rO rC σ (nI o)) (f_X12_one1 rE rM) i o := by
  obtain ⟨b, i2, c, g, n1, n2, n3, n4, n5, n6⟩ := H
  have hs2 : t i = 33 ∨ t i = 45 ∨ t i = 40 := by omega
  have hs3 : s ∈ sgnL ∧ ary s = 1 := by
    rcases hs with ⟨_, z⟩ | ⟨_, z⟩
    · rw [z]; decide
    · rw [z]; decide
  have h40 : ¬ nI (t i) = (40 : Int32) := nI_lit_ne (m := 40) (by omega) (by omega) (by omega)
  refine ⟨b, i2, c ++ [-nI s], fun x => opv s (g x) 0, by omega, n2, fun hb => ?_, fun L σ hL h => ?_, fun τ h => ?_, fun hb => seg_un hs3.1 hs3.2 (n6 hb)⟩
  · have := n3 hb
    rw [len_a1]
    omega
  · obtain ⟨hR, hF⟩ := h.mv (i + 1)
    obtain ⟨σ1, L1, q1, q2, q3, q4⟩ := n4 L _ (by omega) hR
    have q1' : rO (sI σ 352 0 (nI (i + 1))) (nI (o + 1)) = some (tf (b = true), σ1) := q1
    obtain ⟨σ2, L2, w1, w2, w3, w4⟩ := emit_C q2 (-nI s)
    refine ⟨σ2, L2, ?_, w2, (hF.tr q3).tr w3, fun hb => ?_⟩
    · show f_X7_readOperand1 rO rC σ (nI o) = _
      rw [sign_C hl ht h e hs2 rO rC o, if_neg (show ¬ (6 : Int32) ≤ nI o from nI_ge (b := 6) ho (by omega))]
      unfold f_X7_readOperand_b96
      rw [if_neg h40, h.2.2.2.1, nI_p1, nI_p1, q1', bnd2_e, RS.dr q2]
      unfold f_X7_readOperand_b146
      rcases hs with ⟨z, y⟩ | ⟨z, y⟩
      · rw [if_pos (show nI (t i) = (45 : Int32) from congrArg nI z)]
        rw [y] at w1
        rw [show (-126 : Int32) = -nI 126 by decide, w1, bnd1_e]
        exact chkB_tfb b σ2
      · rw [if_neg (show ¬ nI (t i) = (45 : Int32) from by rw [z]; decide)]
        rw [y] at w1
        rw [show (-33 : Int32) = -nI 33 by decide, w1, bnd1_e]
        exact chkB_tfb b σ2
    · obtain ⟨x1, x2, x3⟩ := q4 hb
      have := n3 hb
      obtain ⟨y1, y2, y3⟩ := w4 (by omega)
      refine ⟨by rw [len_a1]; omega, cd_app (cd_same x2 y3 (by omega)) (cd_one (by rw [← x1]; exact y2)), fun x hx => (y3 x (by omega)).trans (x3 x hx)⟩
  · obtain ⟨hR, hF⟩ := h.op
    obtain ⟨v, τ1, q1, q2, q3, q4⟩ := n5 _ hR
    have hF2 := hF.tr q2
    have hcl : FrP τ1 (sI τ1 617 0 (τ1.1 617 0 - 1)) := ⟨rfl, fun f x _ _ h3 => if_neg (fun z => h3 z.1)⟩
    refine ⟨opv s v 0, sI τ1 617 0 (τ1.1 617 0 - 1), ?_, hF2.tr hcl, fun hb => ⟨(q3 hb).1.cl.1, ?_⟩, fun hb => ((q4 hb).cl _).1⟩
    · rw [sign_M hl h e hs2, b32_in h ho, if_neg h40, q1, bnd2_e]
      unfold f_X12_one_b83 f_X12_one_b104
      rw [if_neg h40, if_neg h40]
      rcases hs with ⟨z, y⟩ | ⟨z, y⟩
      · rw [if_pos (show nI (t i) = (45 : Int32) from congrArg nI z), y]
        rfl
      · rw [if_neg (show ¬ nI (t i) = (45 : Int32) from by rw [z]; decide), y]
        by_cases h0 : v = 0
        · rw [if_pos h0, show opv 33 v 0 = 1 from if_pos h0]
        · rw [if_neg h0, show opv 33 v 0 = 0 from if_neg h0]
    · have p2 : v = g (evN (τ.2.2.1 618 0)) := (q3 hb).2
      rw [p2]
theorem op_par {t : Nat → Nat} {len j : Nat} (hl : len ≤ 120) (ht : ∀ x, t x < 256) {rr : St → Int32 → Int32 → Option (Int32 × St)} {rO : St → Int32 → Option (Int32 × St)} {rE rM : St → Option (Int32 × St)} {i o : Nat} (ho : o < 6) (e : i < len) (hs : t i = 40) (H : NT t len j (fun σ => rr σ (nI 0) (nI (o + 1))) rE (i + 1) (o + 1)) : NT t len j (fun σ => f_X7_readOperand1 rO (f_X7_readToClose1 rr) σ (nI o)) (f_X12_one1 rE rM) i o := by
  obtain ⟨b, i2, c, g, n1, n2, n3, n4, n5, n6⟩ := H
  have hs2 : t i = 33 ∨ t i = 45 ∨ t i = 40 := by omega
  have h40 : nI (t i) = (40 : Int32) := congrArg nI hs
  have hcl : ∀ L σ, RS t len j i L σ → f_X7_readOperand1 rO (f_X7_readToClose1 rr) σ (nI o) = chkB (chkB (bnd2 (rr (sI σ 352 0 (nI (i + 1))) (nI 0) (nI (o + 1))) (fun r2 σ3 => if r2 = 0 then (some ((0 : Int32), σ3)) else (bnd2 (f_X7_isAt σ3 (41 : Int32)) (fun r6 σ7 => if r6 = 0 then (some ((0 : Int32), σ7)) else (some ((1 : Int32), sI σ7 352 0 ((σ7.1 352 0) + (1 : Int32))))))))) := by
    intro L σ h
    rw [sign_C hl ht h e hs2 rO _ o, if_neg (show ¬ (6 : Int32) ≤ nI o from nI_ge (b := 6) ho (by omega))]
    unfold f_X7_readOperand_b96
    rw [if_pos h40, h.2.2.2.1, nI_p1, nI_p1, bnd2_id]
    rfl
  have hmo : ∀ τ, MSt t len i o τ → f_X12_one1 rE rM τ = bnd2 (rE (sI (sI τ 617 0 (nI (o + 1))) 614 0 (nI (i + 1)))) (fun r19 σ20 => bnd2 (f_X12_takes σ20 (41 : Int32)) (fun r40 σ41 => if r40 = 0 then (bnd2 (f_X12_wrong σ41) (fun r44 σ45 => some (r44, σ45))) else some (r19, sI σ41 617 0 ((σ41.1 617 0) - (1 : Int32))))) := by
    intro τ h
    rw [sign_M hl h e hs2, b32_in h ho, if_pos h40]
    unfold f_X12_one_b83 f_X12_one_b104
    simp only [if_pos h40]
  cases b with
  | false =>
    refine ⟨false, i2, [], fun _ => 0, by omega, n2, nofun, fun L σ hL h => ?_, fun τ h => ?_, nofun⟩
    · obtain ⟨hR, hF⟩ := h.mv (i + 1)
      obtain ⟨σ1, L1, q1, q2, q3, _⟩ := n4 L _ (by omega) hR
      have q1' : rr (sI σ 352 0 (nI (i + 1))) (nI 0) (nI (o + 1)) = some (0, σ1) := q1
      refine ⟨σ1, L1, ?_, q2, hF.tr q3, nofun⟩
      show f_X7_readOperand1 rO (f_X7_readToClose1 rr) σ (nI o) = _
      rw [hcl L σ h, q1', bnd2_e, if_pos rfl, chkB_0]
      exact chkB_0 σ1
    · obtain ⟨hR, hF⟩ := h.op
      obtain ⟨v, τ1, q1, q2, q3, q4⟩ := n5 _ hR
      obtain ⟨τ2, w1, w2, w3⟩ := wrong_F (q4 rfl) (by omega)
      refine ⟨0, τ2, ?_, (hF.tr q2).tr w2, nofun, fun _ => w3⟩
      rw [hmo τ h, q1, bnd2_e, takes_F (q4 rfl) (by omega), bnd2_e, if_pos rfl, w1, bnd2_e]
  | true =>
    by_cases hq : byN t len i2 = 41
    · have hlt : i2 < len := by
        by_cases z : i2 < len
        · exact z
        · have : byN t len i2 = 0 := if_neg z
          omega
      refine ⟨true, i2 + 1, c, g, by omega, hlt, fun _ => by have := n3 rfl; omega, fun L σ hL h => ?_, fun τ h => ?_, n6⟩
      · obtain ⟨hR, hF⟩ := h.mv (i + 1)
        obtain ⟨σ1, L1, q1, q2, q3, q4⟩ := n4 L _ (by omega) hR
        have q1' : rr (sI σ 352 0 (nI (i + 1))) (nI 0) (nI (o + 1)) = some (1, σ1) := q1
        obtain ⟨hR2, hF2⟩ := q2.mv (i2 + 1)
        refine ⟨sI σ1 352 0 (nI (i2 + 1)), L1, ?_, hR2, (hF.tr q3).tr hF2, fun _ => q4 rfl⟩
        show f_X7_readOperand1 rO (f_X7_readToClose1 rr) σ (nI o) = _
        rw [hcl L σ h, q1', bnd2_e, if_neg one_n0, show f_X7_isAt σ1 (41 : Int32) = _ from isAt_C q2 n2 hl ht (c := 41) (by omega) (by omega), tf_t hq, bnd2_e, if_neg one_n0, q2.2.2.2.1, nI_p1, chkB_1]
        exact chkB_1 _
      · obtain ⟨hR, hF⟩ := h.op
        obtain ⟨v, τ1, q1, q2, q3, q4⟩ := n5 _ hR
        obtain ⟨p1, p2⟩ := q3 rfl
        obtain ⟨hR2, hF2⟩ := p1.mv (i2 + 1)
        refine ⟨v, _, ?_, ((hF.tr q2).tr hF2).tr hR2.cl.2, fun _ => ⟨hR2.cl.1, p2⟩, nofun⟩
        rw [hmo τ h, q1, bnd2_e, show f_X12_takes τ1 (41 : Int32) = _ from takes_M p1 n2 hl ht (c := 41) (by omega), if_pos hq, bnd2_e, if_neg one_n0]
    · refine ⟨false, i2, [], fun _ => 0, by omega, n2, nofun, fun L σ hL h => ?_, fun τ h => ?_, nofun⟩
      · obtain ⟨hR, hF⟩ := h.mv (i + 1)
        obtain ⟨σ1, L1, q1, q2, q3, q4⟩ := n4 L _ (by omega) hR
        have q1' : rr (sI σ 352 0 (nI (i + 1))) (nI 0) (nI (o + 1)) = some (1, σ1) := q1
        refine ⟨σ1, L1, ?_, q2, hF.tr q3, nofun⟩
        show f_X7_readOperand1 rO (f_X7_readToClose1 rr) σ (nI o) = _
        rw [hcl L σ h, q1', bnd2_e, if_neg one_n0, show f_X7_isAt σ1 (41 : Int32) = _ from isAt_C q2 n2 hl ht (c := 41) (by omega) (by omega), tf_f hq, bnd2_e, if_pos rfl, chkB_0]
        exact chkB_0 _
      · obtain ⟨hR, hF⟩ := h.op
        obtain ⟨v, τ1, q1, q2, q3, q4⟩ := n5 _ hR
        obtain ⟨p1, p2⟩ := q3 rfl
        obtain ⟨τ2, w1, w2, w3⟩ := wrong_M p1 n2
        refine ⟨0, τ2, ?_, (hF.tr q2).tr w2, nofun, fun _ => w3⟩
        rw [hmo τ h, q1, bnd2_e, show f_X12_takes τ1 (41 : Int32) = _ from takes_M p1 n2 hl ht (c := 41) (by omega), if_neg hq, bnd2_e, if_pos rfl, w1, bnd2_e]
theorem one_s (m : Nat) : f_X12_one_n (m + 1) = f_X12_one1 (f_X12_either1 (f_X12_both1 (f_X12_compared1 (f_X12_sumsUp1 (f_X12_product1 (f_X12_one_n m)))))) (f_X12_one_n m) := by
  funext σ
  rw [f_X12_one_n]
theorem op_N {t : Nat → Nat} {len j : Nat} (hl : len ≤ 120) (ht : ∀ x, t x < 256) : ∀ d o, o + d = 6 → ∀ gf mf i, 8 * d + 1 ≤ gf → d + 1 ≤ mf → i ≤ len → NT t len j (fun σ => (rdG gf).2.1 σ (nI o)) (f_X12_one_n mf) i o := by
  intro d
  induction d with
  | zero =>
    intro o ho gf mf i hg hm hi
    obtain ⟨G, rfl⟩ : ∃ x, gf = x + 1 := ⟨gf - 1, by omega⟩
    obtain ⟨m, rfl⟩ : ∃ x, mf = x + 1 := ⟨mf - 1, by omega⟩
    obtain rfl : o = 6 := by omega
    rw [one_s]
    by_cases hs : byN t len i = 33 ∨ byN t len i = 45 ∨ byN t len i = 40
    · have hlt : i < len := by
        by_cases z : i < len
        · exact z
        · have : byN t len i = 0 := if_neg z
          omega
      rw [show byN t len i = t i from if_pos hlt] at hs
      exact op_deep hl ht hlt hs
    · exact op_leaf hl ht hi hs
  | succ d ih =>
    intro o ho gf mf i hg hm hi
    obtain ⟨G, rfl⟩ : ∃ x, gf = x + 6 + 1 + 1 := ⟨gf - 8, by omega⟩
    obtain ⟨m, rfl⟩ : ∃ x, mf = x + 1 := ⟨mf - 1, by omega⟩
    rw [one_s]
    by_cases hs : byN t len i = 33 ∨ byN t len i = 45 ∨ byN t len i = 40
    · have hlt : i < len := by
        by_cases z : i < len
        · exact z
        · have : byN t len i = 0 := if_neg z
          omega
      rw [show byN t len i = t i from if_pos hlt] at hs
      rcases hs with z | z | z
      · exact op_un (s := 33) hl ht (by omega) hlt (Or.inr ⟨z, rfl⟩) (ih (o + 1) (by omega) (G + 6 + 1) m (i + 1) (by omega) (by omega) hlt)
      · exact op_un (s := 126) hl ht (by omega) hlt (Or.inl ⟨z, rfl⟩) (ih (o + 1) (by omega) (G + 6 + 1) m (i + 1) (by omega) (by omega) hlt)
      · exact op_par hl ht (by omega) hlt z (rank_all hl ht (fun i hi => ih (o + 1) (by omega) G m i (by omega) (by omega) hi) (i + 1) hlt)
    · exact op_leaf hl ht hi hs
/-- an expression -/
theorem ex_N {t : Nat → Nat} {len j : Nat} (hl : len ≤ 120) (ht : ∀ x, t x < 256) (i : Nat) (hi : i ≤ len) : NT t len j (fun σ => f_X7_readRank σ 0 0) f_X12_either i 0 :=
  rank_all (G := 64) hl ht (fun i hi => op_N hl ht 6 0 rfl 64 10 i (by omega) (by omega) hi) i hi
