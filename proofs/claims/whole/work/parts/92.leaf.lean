/-! reading THE TAPE: joins and leaves -/
theorem cd_app {σ : St} {j i : Nat} {a b : List Int32} (h : CdAt σ j i a) (g : CdAt σ j (i + a.length) b) : CdAt σ j i (a ++ b) := fun x hx => by
  rw [List.length_append] at hx
  by_cases e : x < a.length
  · rw [List.getD_eq_getElem?_getD, List.getElem?_append_left e, ← List.getD_eq_getElem?_getD]
    exact h x e
  · have := g (x - a.length) (by omega)
    rw [List.getD_eq_getElem?_getD, List.getElem?_append_right (by omega), ← List.getD_eq_getElem?_getD, ← this, show i + a.length + (x - a.length) = i + x by omega]
theorem cd_one {σ : St} {j i : Nat} {c : Int32} (h : σ.2.2.1 200 j i = c) : CdAt σ j i [c] := fun x hx => by
  have hx1 : x < 1 := hx
  obtain rfl : x = 0 := by omega
  exact h
theorem cd_same {σ σ' : St} {j L L2 : Nat} {c : List Int32} (h : CdAt σ j L c) (hx : ∀ x, x < L2 → σ'.2.2.1 200 j x = σ.2.2.1 200 j x) (hl : L + c.length ≤ L2) : CdAt σ' j L c := fun x h1 => (hx _ (by omega)).trans (h x h1)
theorem len_a1 (c : List Int32) (x : Int32) : (c ++ [x]).length = c.length + 1 := by rw [List.length_append]; rfl
theorem RS.dr {β : Type} {t : Nat → Nat} {len j i L : Nat} {σ : St} (h : RS t len j i L σ) (k : Nat → Option β) : derefL σ (σ.2.2.2.2 353) k = k j := derefL_e h.2.2.1.1 h.2.2.1.2
theorem chkB_1 (u : St) : chkB (some ((1 : Int32), u)) = some (1, u) := chkB_tf (p := True) (u := u)
theorem chkB_0 (u : St) : chkB (some ((0 : Int32), u)) = some (0, u) := chkB_tf (p := False) (u := u)
theorem byN_b {t : Nat → Nat} {len : Nat} (ht : ∀ x, t x < 256) (i : Nat) : byN t len i < 256 := by
  unfold byN
  have := ht i
  split <;> omega
theorem nt_fail {t : Nat → Nat} {len j : Nat} {R M : St → Option (Int32 × St)} {i o : Nat} (hi : i ≤ len) (hR : ∀ L σ, RS t len j i L σ → R σ = some (0, σ)) (hM : ∀ τ, MSt t len i o τ → ∃ v τ', M τ = some (v, τ') ∧ FrP τ τ' ∧ MF t len i τ') : NT t len j R M i o := by
  refine ⟨false, i, [], fun _ => 0, Nat.le_refl _, hi, nofun, fun L σ _ h => ⟨σ, L, hR L σ h, h, FrR.rf j σ, nofun⟩, fun τ h => ?_, nofun⟩
  obtain ⟨v, τ', a, b, c⟩ := hM τ h
  exact ⟨v, τ', a, b, nofun, fun _ => c⟩
theorem one_num {t : Nat → Nat} {len : Nat} (hl : len ≤ 120) (ht : ∀ x, t x < 256) {rE rM : St → Option (Int32 × St)} {i o : Nat} {τ : St} (h : MSt t len i o τ) (hi : i ≤ len) (hs : ¬ (byN t len i = 33 ∨ byN t len i = 45 ∨ byN t len i = 40)) (hn : nmB (byN t len i) = -1) : ∃ τ', f_X12_one1 rE rM τ = f_X12_one_b229 rE rM τ' (nI (nbN t len 4 i 0).2) (nI ((nbN t len 4 i 0).1 - i)) ∧ MSt t len (nbN t len 4 i 0).1 o τ' ∧ FrP τ τ' := by
  have hb := byN_b (len := len) ht i
  obtain ⟨τ', q1, q2, q3⟩ := num_M hl ht (rE := rE) (rO := rM) 4 i 0 256 τ hi (by omega) (by omega) h
  refine ⟨τ', ?_, q2, q3⟩
  rw [show 4 - 4 + ((nbN t len 4 i 0).1 - i) = (nbN t len 4 i 0).1 - i by omega] at q1
  unfold f_X12_one1
  rw [if_pos (show τ.1 616 0 < 0 by rw [h.2.2.1]; decide), byte_at h.1 h.2.1 hi hl, bnd2_e, if_neg (show ¬ nI (byN t len i) = (33 : Int32) from nI_lit_ne (m := 33) (fun z => hs (Or.inl z)) (by omega) (by omega)), if_neg (show ¬ nI (byN t len i) = (45 : Int32) from nI_lit_ne (m := 45) (fun z => hs (Or.inr (Or.inl z))) (by omega) (by omega)), if_neg (show ¬ nI (byN t len i) = (40 : Int32) from nI_lit_ne (m := 40) (fun z => hs (Or.inr (Or.inr z))) (by omega) (by omega)), nameOf_e _ hb, hn, bnd1_e, if_pos (show (-1 : Int32) < 0 by decide)]
  exact q1
theorem op_leaf {t : Nat → Nat} {len j : Nat} (hl : len ≤ 120) (ht : ∀ x, t x < 256) {rO rC : St → Int32 → Option (Int32 × St)} {rE rM : St → Option (Int32 × St)} {i o : Nat} (hi : i ≤ len) (hs : ¬ (byN t len i = 33 ∨ byN t len i = 45 ∨ byN t len i = 40)) : NT t len j (fun σ => f_X7_readOperand1 rO rC σ (nI o)) (f_X12_one1 rE rM) i o := by
  have hb := byN_b (len := len) ht i
  have fail : nmB (byN t len i) = -1 → ¬ (i < len ∧ (48 ≤ t i ∧ t i ≤ 57)) → NT t len j (fun σ => f_X7_readOperand1 rO rC σ (nI o)) (f_X12_one1 rE rM) i o := by
    intro hn hd
    refine nt_fail hi (fun L σ h => ?_) (fun τ h => ?_)
    · obtain ⟨a1, a2, a3, a4, a5, a6⟩ := h
      show f_X7_readOperand1 rO rC σ (nI o) = _
      unfold f_X7_readOperand1 f_X7_readOperand10
      rw [a4, a1]
      by_cases e : i < len
      · have hti := ht i
        have hbt : byN t len i = t i := if_pos e
        rw [hbt] at hn hs
        rw [if_pos (nI_lt e (by omega)), chk_in (show i < 120 by omega) (by omega), nI_clamp (by omega), a2 i e, bnd_e, digit_e _ hti, bnd1_e, tf_f (fun z => hd ⟨e, z⟩), if_pos rfl, idxN_e _ hti, hn, bnd_e, if_pos (show (-1 : Int32) < 0 by decide)]
        by_cases e6 : (6 : Int32) ≤ nI o
        · rw [if_pos e6]
          exact chkB_0 σ
        · rw [if_neg e6, if_neg (show ¬ nI (t i) = (40 : Int32) from nI_lit_ne (m := 40) (fun z => hs (Or.inr (Or.inr z))) (by omega) (by omega)), if_neg (show ¬ nI (t i) = (33 : Int32) from nI_lit_ne (m := 33) (fun z => hs (Or.inl z)) (by omega) (by omega)), if_neg (show ¬ nI (t i) = (45 : Int32) from nI_lit_ne (m := 45) (fun z => hs (Or.inr (Or.inl z))) (by omega) (by omega))]
          exact chkB_0 σ
      · rw [if_neg (fun z => e ((nI_ltI (by omega) (by omega)).mp z))]
        exact chkB_0 σ
    · obtain ⟨τ', q1, q2, q3⟩ := one_num hl ht (rE := rE) (rM := rM) h hi hs hn
      have e0 : nbN t len 4 i 0 = (i, 0) := if_neg hd
      rw [e0] at q1 q2
      obtain ⟨τ2, w1, w2, w3⟩ := wrong_M (i := i) q2 hi
      refine ⟨0, τ2, ?_, q3.tr w2, w3⟩
      rw [q1]
      unfold f_X12_one_b229
      rw [if_pos (show nI ((i, 0).1 - i) = (0 : Int32) from by rw [Nat.sub_self]; rfl), w1, bnd2_e]
  by_cases e : i < len
  · have hti := ht i
    have hbt : byN t len i = t i := if_pos e
    by_cases hd : 48 ≤ t i ∧ t i ≤ 57
    · have hn : nmB (byN t len i) = -1 := nmB_s _ hb (by rw [hbt]; exact Or.inr (Or.inr (Or.inr (Or.inl hd))))
      obtain ⟨b1, b2, b3⟩ := nb_b t (len := len) 4 i 0 hi
      have e0 : nbN t len 4 i 0 = nbN t len 3 (i + 1) (10 * 0 + (t i - 48)) := if_pos ⟨e, hd⟩
      have hge : i + 1 ≤ (nbN t len 4 i 0).1 := by
        rw [e0]
        exact (nb_b t (len := len) 3 (i + 1) (10 * 0 + (t i - 48)) e).1
      refine ⟨true, (nbN t len 4 i 0).1, [nI (nbN t len 4 i 0).2], fun _ => nI (nbN t len 4 i 0).2, b1, b2, fun _ => hge, fun L σ hL h => ?_, fun τ h => ?_, fun _ => seg_num (by omega)⟩
      · obtain ⟨σ', q1, q2, q3, q4⟩ := num_C hl ht 4 i 0 256 L σ hi (by omega) (by omega) h
        obtain ⟨σ2, L2, w1, w2, w3, w4⟩ := emit_C q2 (nI (nbN t len 4 i 0).2)
        obtain ⟨x1, x2, x3⟩ := w4 (by omega)
        refine ⟨σ2, L2, ?_, w2, q3.tr w3, fun _ => ⟨x1, cd_one x2, fun x hx => (x3 x hx).trans (by rw [q4])⟩⟩
        obtain ⟨a1, a2, a3, a4, a5, a6⟩ := h
        show f_X7_readOperand1 rO rC σ (nI o) = _
        unfold f_X7_readOperand1 f_X7_readOperand10
        rw [a4, a1, if_pos (nI_lt e (by omega)), chk_in (show i < 120 by omega) (by omega), nI_clamp (by omega), a2 i e, bnd_e, digit_e _ hti, bnd1_e, tf_t hd, if_neg one_n0, show f_X7_readNumber σ = f_X7_readNumber_b69 σ' (nI (nbN t len 4 i 0).2) from q1]
        unfold f_X7_readNumber_b69
        rw [RS.dr q2, w1, bnd1_e, bnd1_e]
        exact chkB_1 σ2
      · obtain ⟨τ', q1, q2, q3⟩ := one_num hl ht (rE := rE) (rM := rM) h hi hs hn
        refine ⟨nI (nbN t len 4 i 0).2, τ', ?_, q3, fun _ => ⟨q2, rfl⟩, nofun⟩
        rw [q1]
        unfold f_X12_one_b229
        rw [if_neg (nI_ne0 (by omega) (by omega))]
    · rcases nmB_k _ hti with hn | ⟨k, hk, hn⟩
      · exact fail (by rw [hbt]; exact hn) (fun z => hd z.2)
      · rw [hbt] at hs
        refine ⟨true, i + 1, [(-1 : Int32) - nI k], fun e => e k, by omega, e, fun _ => Nat.le_refl _, fun L σ hL h => ?_, fun τ h => ?_, fun _ => seg_name hk⟩
        · obtain ⟨hR, hF⟩ := h.mv (i + 1)
          obtain ⟨σ2, L2, w1, w2, w3, w4⟩ := emit_C hR ((-1 : Int32) - nI k)
          obtain ⟨x1, x2, x3⟩ := w4 (by omega)
          refine ⟨σ2, L2, ?_, w2, hF.tr w3, fun _ => ⟨x1, cd_one x2, fun x hx => x3 x hx⟩⟩
          obtain ⟨a1, a2, a3, a4, a5, a6⟩ := h
          show f_X7_readOperand1 rO rC σ (nI o) = _
          unfold f_X7_readOperand1 f_X7_readOperand10
          rw [a4, a1, if_pos (nI_lt e (by omega)), chk_in (show i < 120 by omega) (by omega), nI_clamp (by omega), a2 i e, bnd_e, digit_e _ hti, bnd1_e, tf_f hd, if_pos rfl, idxN_e _ hti, hn, bnd_e, if_neg (nI_n0 (by omega)), nI_p1, RS.dr hR, w1, bnd1_e]
          exact chkB_1 σ2
        · obtain ⟨hR, hF⟩ := h.mv (i + 1)
          refine ⟨τ.2.2.1 618 0 k, sI τ 614 0 (nI (i + 1)), ?_, hF, fun _ => ⟨hR, (show evN (τ.2.2.1 618 0) k = τ.2.2.1 618 0 k from if_pos hk).symm⟩, nofun⟩
          unfold f_X12_one1
          rw [if_pos (show τ.1 616 0 < 0 by rw [h.2.2.1]; decide), byte_at h.1 h.2.1 hi hl, bnd2_e, hbt, if_neg (show ¬ nI (t i) = (33 : Int32) from nI_lit_ne (m := 33) (fun z => hs (Or.inl z)) (by omega) (by omega)), if_neg (show ¬ nI (t i) = (45 : Int32) from nI_lit_ne (m := 45) (fun z => hs (Or.inr (Or.inl z))) (by omega) (by omega)), if_neg (show ¬ nI (t i) = (40 : Int32) from nI_lit_ne (m := 40) (fun z => hs (Or.inr (Or.inr z))) (by omega) (by omega)), nameOf_e _ hti, hn, bnd1_e, if_neg (nI_n0 (by omega)), chk_in hk (by omega), nI_clamp (by omega), h.2.1, nI_p1]
          rfl
  · exact fail (nmB_s _ hb (Or.inr (Or.inr (Or.inr (Or.inr (if_neg e)))))) (fun z => e z.1)
