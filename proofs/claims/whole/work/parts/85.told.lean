/-! what is told: its number, its kind -/
def OkW (nn num w : Nat) : Prop := (w = 0 ∧ num < nn) ∨ (w = 1 ∧ num / 100 < 12 ∧ num % 100 < 12 ∧ num / 100 ≠ num % 100) ∨ (w = 2 ∧ num < 12) ∨ (w = 3 ∧ num < 12) ∨ (w = 4 ∧ num = 0)
theorem okW_b {nn num w : Nat} (h : OkW nn num w) (hn : nn ≤ 10) : num < 1200 ∧ w < 5 := by
  rcases h with h | h | h | h | h <;> omega
def tld (α : Ab) (num w : Nat) : Nat := if w = 0 then aK α num else if w = 1 then aAL α (num / 100) (num % 100) else if w = 2 then aLG α num else if w = 3 then aCL α num else aNO α
theorem whr_lt {nn num w : Nat} (h : OkW nn num w) (hn : nn ≤ 10) : whr num w < 179 := by
  unfold whr
  rcases h with h | h | h | h | h
  · rw [if_pos h.1]; omega
  · rw [h.1, if_neg (by decide), if_pos rfl]
    split <;> omega
  · rw [h.1, if_neg (by decide), if_neg (by decide), if_pos rfl]; omega
  · rw [h.1, if_neg (by decide), if_neg (by decide), if_neg (by decide), if_pos rfl]; omega
  · rw [h.1, if_neg (by decide), if_neg (by decide), if_neg (by decide), if_neg (by decide)]; omega
theorem whr0 (n : Nat) : whr n 0 = n := rfl
theorem whr1 (n : Nat) : whr n 1 = 10 + (if n / 100 < n % 100 then 12 * (n / 100) + n % 100 else 12 * (n % 100) + n / 100) := rfl
theorem whr2 (n : Nat) : whr n 2 = 154 + n := rfl
theorem whr3 (n : Nat) : whr n 3 = 166 + n := rfl
theorem whr4 (n : Nat) : whr n 4 = 178 := rfl
theorem may_M {k : Nat} {α : Ab} {τ : St} (ho : OkA k α) (hm : AbsM α τ) {num w : Nat} (h : OkW (aN α).length num w) : τ.2.2.1 600 0 (whr num w) = nI (tld α num w) := by
  rcases h with h | h | h | h | h
  · obtain ⟨rfl, h2⟩ := h
    exact (hm.1.2 num h2).2.1
  · obtain ⟨rfl, h2, h3, h4⟩ := h
    rw [whr1]
    exact al_M ho hm h2 h3 h4
  · obtain ⟨rfl, h2⟩ := h
    rw [whr2]
    exact (hm.2.1.2.1 num h2).1
  · obtain ⟨rfl, h2⟩ := h
    rw [whr3]
    exact (hm.2.1.2.1 num h2).2
  · obtain ⟨rfl, h2⟩ := h
    rw [whr4]
    exact hm.2.1.2.2
theorem d100 {num : Nat} (h : num < 1200) : nI num / 100 = nI (num / 100) ∧ nI num - nI num / 100 * 100 = nI (num % 100) := ⟨pk_div (d := 100) (by omega) (by omega) (by omega), pk_rem (d := 100) (by omega) (by omega) (by omega)⟩
theorem told_C {k : Nat} {α : Ab} {σ : St} (ho : OkA k α) (hc : AbsC α σ) {num w : Nat} (h : OkW (aN α).length num w ∨ (w = 1 ∧ num / 100 < 12 ∧ num % 100 < 12)) : f_X11_told σ (nI num) (nI w) = some (nI (tld α num w), σ) := by
  have hl := (oNm ho).1
  have two : w = 1 ∧ num / 100 < 12 ∧ num % 100 < 12 → f_X11_told σ (nI num) (nI w) = some (nI (tld α num w), σ) := by
    intro h
    obtain ⟨rfl, h2, h3⟩ := h
    unfold f_X11_told
    obtain ⟨e1, e2⟩ := d100 (show num < 1200 by omega)
    rw [if_neg (show ¬ nI 1 = 0 by decide), if_pos (show nI 1 = 1 by decide), e2, e1, ix12, chk_in (show 12 * (num / 100) + num % 100 < 144 by omega) (by omega), nI_clamp (by omega), hc.2.1.1 _ _ h2 h3]
    rfl
  rcases h with (h | h | h | h | h) | h
  · obtain ⟨rfl, h2⟩ := h
    unfold f_X11_told
    rw [if_pos (show nI 0 = 0 from rfl), chk_in (show num < 10 by omega) (by omega), nI_clamp (by omega), (hc.1.2 num h2).2.1]
    rfl
  · exact two ⟨h.1, h.2.1, h.2.2.1⟩
  · obtain ⟨rfl, h2⟩ := h
    unfold f_X11_told
    rw [if_neg (show ¬ nI 2 = 0 by decide), if_neg (show ¬ nI 2 = 1 by decide), if_pos (show nI 2 = 2 by decide), chk_in h2 (by omega), nI_clamp (by omega), (hc.2.1.2.1 num h2).1]
    rfl
  · obtain ⟨rfl, h2⟩ := h
    unfold f_X11_told
    rw [if_neg (show ¬ nI 3 = 0 by decide), if_neg (show ¬ nI 3 = 1 by decide), if_neg (show ¬ nI 3 = 2 by decide), if_pos (show nI 3 = 3 by decide), chk_in h2 (by omega), nI_clamp (by omega), (hc.2.1.2.1 num h2).2]
    rfl
  · obtain ⟨rfl, h2⟩ := h
    unfold f_X11_told
    rw [if_neg (show ¬ nI 4 = 0 by decide), if_neg (show ¬ nI 4 = 1 by decide), if_neg (show ¬ nI 4 = 2 by decide), if_neg (show ¬ nI 4 = 3 by decide), hc.2.1.2.2]
    rfl
  · exact two h
theorem place_both {k : Nat} {α : Ab} {σ τ : St} (ho : OkA k α) (hc : AbsC α σ) (hm : AbsM α τ) (p q : Int32) : (∃ num w, OkW (aN α).length num w ∧ p = nI num ∧ q = nI w ∧ f_X11_mendable σ p q = some (1, σ) ∧ f_X12_placeOf τ p q = some (nI (whr num w), τ)) ∨ (f_X11_mendable σ p q = some (0, σ) ∧ f_X12_placeOf τ p q = some (-1, τ)) := by
  unfold f_X11_mendable f_X11_mendable0 f_X12_placeOf
  by_cases q0 : q = 0
  · rw [if_pos q0, if_pos q0]
    rcases name_both ho hc hm p with ⟨n, hn, hn2, e, h1, h2⟩ | ⟨h1, h2⟩
    · rw [h1, h2, bnd2_e, bnd2_e, if_neg one_n0]
      exact Or.inl ⟨n, 0, Or.inl ⟨rfl, hn⟩, e, q0, rfl, by rw [e]; rfl⟩
    · rw [h1, h2, bnd2_e, bnd2_e, if_pos rfl]
      exact Or.inr ⟨rfl, rfl⟩
  · rw [if_neg q0, if_neg q0]
    by_cases q1 : q = 1
    · rw [if_pos q1, if_pos q1]
      rcases two_both p with ⟨s, h, hs, hh, e, e1, e2, b1, b2⟩ | ⟨b1, b2⟩
      · rw [b1, b2, bnd1_e, bnd1_e, if_neg one_n0, if_neg one_n0, e2, e1]
        by_cases e3 : s = h
        · rw [if_pos (congrArg nI e3), if_pos (congrArg nI e3)]
          exact Or.inr ⟨rfl, rfl⟩
        · rw [if_neg (nI_lit_ne e3 (by omega) (by omega)), if_neg (nI_lit_ne e3 (by omega) (by omega)), alikeAt_e hs hh, bnd1_e]
          have g1 : (100 * s + h) / 100 = s := by omega
          have g2 : (100 * s + h) % 100 = h := by omega
          refine Or.inl ⟨100 * s + h, 1, Or.inr (Or.inl ⟨rfl, by omega, by omega, by omega⟩), e, q1, rfl, ?_⟩
          rw [whr1, g1, g2]
      · rw [b1, b2, bnd1_e, bnd1_e, if_pos rfl, if_pos rfl]
        exact Or.inr ⟨rfl, rfl⟩
    · rw [if_neg q1, if_neg q1]
      by_cases q2 : q = 2
      · rw [if_pos q2, if_pos q2]
        rcases letter_both p with ⟨n, hn, e, h1, h2⟩ | ⟨h1, h2⟩
        · rw [h1, h2, bnd1_e, bnd1_e, if_neg one_n0]
          refine Or.inl ⟨n, 2, Or.inr (Or.inr (Or.inl ⟨rfl, hn⟩)), e, q2, rfl, ?_⟩
          rw [e, show (154 : Int32) + nI n = nI (154 + n) from nI_add 154 n]
          rfl
        · rw [h1, h2, bnd1_e, bnd1_e, if_pos rfl]
          exact Or.inr ⟨rfl, rfl⟩
      · rw [if_neg q2, if_neg q2]
        by_cases q3 : q = 3
        · rw [if_pos q3, if_pos q3]
          rcases letter_both p with ⟨n, hn, e, h1, h2⟩ | ⟨h1, h2⟩
          · rw [h1, h2, bnd1_e, bnd1_e, if_neg one_n0]
            refine Or.inl ⟨n, 3, Or.inr (Or.inr (Or.inr (Or.inl ⟨rfl, hn⟩))), e, q3, rfl, ?_⟩
            rw [e, show (166 : Int32) + nI n = nI (166 + n) from nI_add 166 n]
            rfl
          · rw [h1, h2, bnd1_e, bnd1_e, if_pos rfl]
            exact Or.inr ⟨rfl, rfl⟩
        · rw [if_neg q3, if_neg q3]
          by_cases q4 : q = 4
          · rw [if_pos q4, if_pos q4]
            by_cases p0 : p = 0
            · rw [if_pos p0, if_pos p0]
              exact Or.inl ⟨0, 4, Or.inr (Or.inr (Or.inr (Or.inr ⟨rfl, rfl⟩))), p0, q4, rfl, rfl⟩
            · rw [if_neg p0, if_neg p0]
              exact Or.inr ⟨rfl, rfl⟩
          · rw [if_neg q4, if_neg q4]
            exact Or.inr ⟨rfl, rfl⟩
/-! 2 of -/
theorem whr_n0 {nn num w : Nat} (h : OkW nn num w) (hn : nn ≤ 10) : ¬ nI (whr num w) < 0 := nI_n0 (by have := whr_lt h hn; omega)
theorem sp2 (k : Nat) : Step_2 (Rel k) (Rel (k + 1)) := by
  intro σ τ p q hr
  obtain ⟨α, ho, hc, hm⟩ := hr
  have hR : Rel (k + 1) σ τ := ⟨α, okA_mono ho, hc, hm⟩
  have hl := (oNm ho).1
  unfold f_X11_of f_X12_of f_X11_of_b46 f_X11_of_b47 f_X11_of_b61
  rcases place_both ho hc hm p q with ⟨num, w, hw, ep, eq, h1, h2⟩ | ⟨h1, h2⟩
  · have hb := okW_b hw hl
    have ht := told_C ho hc (Or.inl hw)
    have hwl := whr_lt hw hl
    rw [h2, bnd2_e, if_neg (whr_n0 hw hl), chk_in hwl (by omega), nI_clamp (by omega), may_M ho hm hw]
    rw [← ep, ← eq] at ht
    have q5 : ¬ q = 5 := by rw [eq]; exact nI_lit_ne (m := 5) (by omega) (by omega) (by omega)
    rw [if_neg q5, if_neg one_n0, ht, bnd2_e, if_pos (show (0 : Int32) = 0 from rfl), h1, bnd2_e, if_neg one_n0, ht, bnd2_e]
    have h3 : ∀ X : Option (Int32 × St), X = some (nI (tld α num w), σ) → ∃ r σ' τ', X = some (r, σ') ∧ some (nI (tld α num w), τ) = some (r, τ') ∧ Rel (k + 1) σ' τ' := fun X hX => ⟨_, _, _, hX, rfl, hR⟩
    refine h3 _ ?_
    by_cases q1 : q = 1
    · rw [if_pos q1]
      rcases two_both p with ⟨s, h, _, _, _, _, _, b1, _⟩ | ⟨b1, _⟩
      · rw [b1, bnd1_e, if_neg one_n0]
      · rw [b1, bnd1_e, if_pos rfl]
    · rw [if_neg q1]
  · rw [h2, bnd2_e, if_pos neg1_lt]
    by_cases q5 : q = 5
    · rw [if_pos q5, if_neg (show ¬ q = 1 by rw [q5]; decide), if_pos q5]
      rcases name_both ho hc hm p with ⟨n, hn, hn2, e, h3, h4⟩ | ⟨h3, h4⟩
      · rw [h3, h4, bnd2_e, bnd2_e, if_neg one_n0, if_neg one_n0, e, chk_in hn2 (by omega), chk_in hn2 (by omega), nI_clamp (by omega), (sz_C ho hc hn).2.2.2, (sz_M ho hm hn).2.2.2]
        exact ⟨_, _, _, rfl, rfl, hR⟩
      · rw [h3, h4]
        exact ⟨_, _, _, rfl, rfl, hR⟩
    · rw [if_neg q5, if_neg q5]
      by_cases q1 : q = 1
      · rw [if_pos q1, if_pos q1]
        rcases two_both p with ⟨s, h, hs, hh, e, e1, e2, b1, b2⟩ | ⟨b1, b2⟩
        · have g1 : (100 * s + h) / 100 = s := by omega
          have g2 : (100 * s + h) % 100 = h := by omega
          have e3 : s = h := by
            rcases (inferInstance : Decidable (s = h)) with y | y
            · exfalso
              have : OkW (aN α).length (100 * s + h) 1 := Or.inr (Or.inl ⟨rfl, by omega, by omega, by omega⟩)
              have h5 : f_X12_placeOf τ p q = some (nI (whr (100 * s + h) 1), τ) := by
                unfold f_X12_placeOf
                rw [if_neg (show ¬ q = 0 by rw [q1]; decide), if_pos q1, b2, bnd1_e, if_neg one_n0, e2, e1, if_neg (nI_lit_ne y (by omega) (by omega)), alikeAt_e hs hh, bnd1_e]
                rw [whr1, show (100 * s + h) / 100 = s by omega, show (100 * s + h) % 100 = h by omega]
              rw [h2] at h5
              have h6 := congrArg Prod.fst (Option.some.inj h5)
              exact absurd h6.symm (nI_nm1 (by have := whr_lt this hl; omega))
            · exact y
          have ht := told_C ho hc (num := 100 * s + h) (w := 1) (Or.inr ⟨rfl, by rw [g1]; exact hs, by rw [g2]; exact hh⟩)
          rw [← e] at ht
          have ht' : f_X11_told σ p q = some (nI (tld α (100 * s + h) 1), σ) := by rw [q1]; exact ht
          have e9 : tld α (100 * s + h) 1 = 9 := by
            show aAL α ((100 * s + h) / 100) ((100 * s + h) % 100) = 9
            rw [g1, g2, e3]
            exact (oLi ho).2.2.1 h
          rw [b1, b2, bnd1_e, bnd1_e, if_neg one_n0, if_neg one_n0, if_neg one_n0, ht', bnd2_e, e9]
          exact ⟨_, _, _, rfl, rfl, hR⟩
        · rw [b1, b2, bnd1_e, bnd1_e, if_pos rfl, if_pos rfl, if_pos rfl, h1, bnd2_e, if_pos rfl]
          exact ⟨_, _, _, rfl, rfl, hR⟩
      · rw [if_neg q1, if_neg q1, if_pos rfl, h1, bnd2_e, if_pos rfl]
        exact ⟨_, _, _, rfl, rfl, hR⟩
/-! it becomes another -/
def setV (α : Ab) (num w v : Nat) : Ab :=
  if w = 0 then ((aN α, fun n => if n = num then v else aK α n), α.2)
  else if w = 1 then (α.1, (fun s h => if (s = num / 100 ∧ h = num % 100) ∨ (s = num % 100 ∧ h = num / 100) then v else aAL α s h, α.2.1.2), α.2.2)
  else if w = 2 then (α.1, (aAL α, (fun l => if l = num then v else aLG α l), aCL α, aNO α), α.2.2)
  else if w = 3 then (α.1, (aAL α, aLG α, (fun l => if l = num then v else aCL α l), aNO α), α.2.2)
  else (α.1, (aAL α, aLG α, aCL α, v), α.2.2)
/-- what may become of it -/
def OkV (w v : Nat) : Prop := (w = 2 → 1 ≤ v) ∧ (w = 3 → v ≤ 12) ∧ (w ≠ 3 → v ≤ 9)
theorem okA_set {k : Nat} {α : Ab} (h : OkA k α) {num w v : Nat} (hw : OkW (aN α).length num w) (hv : OkV w v) : OkA k (setV α num w v) := by
  have hN := oNm h
  have hL := oLi h
  rcases hw with hw | hw | hw | hw | hw
  · obtain ⟨rfl, h2⟩ := hw
    refine ⟨⟨hN.1, hN.2.1, hN.2.2.1, fun n => ?_⟩, h.2⟩
    show (if n = num then v else aK α n) ≤ 9
    have := hv.2.2 (by decide)
    have := hN.2.2.2 n
    split <;> omega
  · obtain ⟨rfl, h2, h3, h4⟩ := hw
    have h9 := hv.2.2 (by decide)
    refine ⟨h.1, ⟨fun s t => ?_, fun s t => ?_, fun s => ?_, hL.2.2.2⟩, h.2.2⟩
    · show (if (s = num / 100 ∧ t = num % 100) ∨ (s = num % 100 ∧ t = num / 100) then v else aAL α s t) ≤ 9
      have := hL.1 s t
      split <;> omega
    · show (if (s = num / 100 ∧ t = num % 100) ∨ (s = num % 100 ∧ t = num / 100) then v else aAL α s t) = (if (t = num / 100 ∧ s = num % 100) ∨ (t = num % 100 ∧ s = num / 100) then v else aAL α t s)
      by_cases e : (s = num / 100 ∧ t = num % 100) ∨ (s = num % 100 ∧ t = num / 100)
      · rw [if_pos e, if_pos (by omega)]
      · rw [if_neg e, if_neg (by omega)]
        exact hL.2.1 s t
    · show (if (s = num / 100 ∧ s = num % 100) ∨ (s = num % 100 ∧ s = num / 100) then v else aAL α s s) = 9
      rw [if_neg (by omega)]
      exact hL.2.2.1 s
  · obtain ⟨rfl, h2⟩ := hw
    have h9 := hv.2.2 (by decide)
    have h1 := hv.1 rfl
    refine ⟨h.1, ⟨hL.1, hL.2.1, hL.2.2.1, fun l => ?_, hL.2.2.2.2⟩, h.2.2⟩
    show 1 ≤ (if l = num then v else aLG α l) ∧ (if l = num then v else aLG α l) ≤ 9
    have := hL.2.2.2.1 l
    split <;> omega
  · obtain ⟨rfl, h2⟩ := hw
    have h1 := hv.2.1 rfl
    refine ⟨h.1, ⟨hL.1, hL.2.1, hL.2.2.1, hL.2.2.2.1, fun l => ?_, hL.2.2.2.2.2⟩, h.2.2⟩
    show (if l = num then v else aCL α l) ≤ 12
    have := hL.2.2.2.2.1 l
    split <;> omega
  · obtain ⟨rfl, h2⟩ := hw
    exact ⟨h.1, ⟨hL.1, hL.2.1, hL.2.2.1, hL.2.2.2.1, hL.2.2.2.2.1, hv.2.2 (by decide)⟩, h.2.2⟩
theorem absM_set {k : Nat} {α : Ab} {τ : St} (ho : OkA k α) (h : AbsM α τ) {num w v : Nat} (hw : OkW (aN α).length num w) : AbsM (setV α num w v) (sA τ 600 0 (upd (τ.2.2.1 600 0) (whr num w) (nI v))) := by
  have hl := (oNm ho).1
  rcases hw with hw | hw | hw | hw | hw
  · obtain ⟨rfl, h2⟩ := hw
    refine ⟨⟨h.1.1, fun n hn => ⟨(h.1.2 n hn).1, ?_, (h.1.2 n hn).2.2⟩⟩, ⟨fun s t q1 q2 => ?_, fun l q => ⟨?_, ?_⟩, ?_⟩, lawM_cong rfl rfl h.2.2.1, h.2.2.2⟩
    · show upd (τ.2.2.1 600 0) num (nI v) n = nI (if n = num then v else aK α n)
      by_cases e : n = num
      · rw [if_pos e, e, pk_us]
      · rw [if_neg e, pk_un e]; exact (h.1.2 n hn).2.1
    · exact (pk_un (by rw [whr0]; omega)).trans (h.2.1.1 s t q1 q2)
    · exact (pk_un (by rw [whr0]; omega)).trans (h.2.1.2.1 l q).1
    · exact (pk_un (by rw [whr0]; omega)).trans (h.2.1.2.1 l q).2
    · exact (pk_un (by rw [whr0]; omega)).trans h.2.1.2.2
  · obtain ⟨rfl, h2, h3, h4⟩ := hw
    have ew : whr num 1 = 10 + (if num / 100 < num % 100 then 12 * (num / 100) + num % 100 else 12 * (num % 100) + num / 100) := rfl
    have e10 : 10 ≤ whr num 1 ∧ whr num 1 < 154 := by
      rw [ew]
      split <;> omega
    refine ⟨⟨h.1.1, fun n hn => ⟨(h.1.2 n hn).1, (pk_un (by have h9 : n < (aN α).length := hn; omega)).trans (h.1.2 n hn).2.1, (h.1.2 n hn).2.2⟩⟩, ⟨fun s t q1 q2 => ?_, fun l q => ⟨?_, ?_⟩, ?_⟩, lawM_cong rfl rfl h.2.2.1, h.2.2.2⟩
    · show upd (τ.2.2.1 600 0) (whr num 1) (nI v) (10 + (12 * s + t)) = nI (if (s = num / 100 ∧ t = num % 100) ∨ (s = num % 100 ∧ t = num / 100) then v else aAL α s t)
      by_cases e : (s = num / 100 ∧ t = num % 100) ∨ (s = num % 100 ∧ t = num / 100)
      · rw [if_pos e]
        have : 10 + (12 * s + t) = whr num 1 := by
          rw [ew]
          split <;> omega
        rw [this, pk_us]
      · rw [if_neg e, pk_un (by
          rw [ew]
          split <;> omega)]
        exact h.2.1.1 s t q1 q2
    · exact (pk_un (by omega)).trans (h.2.1.2.1 l q).1
    · exact (pk_un (by omega)).trans (h.2.1.2.1 l q).2
    · exact (pk_un (by omega)).trans h.2.1.2.2
  · obtain ⟨rfl, h2⟩ := hw
    have ew : whr num 2 = 154 + num := rfl
    refine ⟨⟨h.1.1, fun n hn => ⟨(h.1.2 n hn).1, (pk_un (by have h9 : n < (aN α).length := hn; omega)).trans (h.1.2 n hn).2.1, (h.1.2 n hn).2.2⟩⟩, ⟨fun s t q1 q2 => ?_, fun l q => ⟨?_, ?_⟩, ?_⟩, lawM_cong rfl rfl h.2.2.1, h.2.2.2⟩
    · exact (pk_un (by omega)).trans (h.2.1.1 s t q1 q2)
    · show upd (τ.2.2.1 600 0) (whr num 2) (nI v) (154 + l) = nI (if l = num then v else aLG α l)
      by_cases e : l = num
      · rw [if_pos e, e, ← ew, pk_us]
      · rw [if_neg e, pk_un (by omega)]; exact (h.2.1.2.1 l q).1
    · exact (pk_un (by omega)).trans (h.2.1.2.1 l q).2
    · exact (pk_un (by omega)).trans h.2.1.2.2
  · obtain ⟨rfl, h2⟩ := hw
    have ew : whr num 3 = 166 + num := rfl
    refine ⟨⟨h.1.1, fun n hn => ⟨(h.1.2 n hn).1, (pk_un (by have h9 : n < (aN α).length := hn; omega)).trans (h.1.2 n hn).2.1, (h.1.2 n hn).2.2⟩⟩, ⟨fun s t q1 q2 => ?_, fun l q => ⟨?_, ?_⟩, ?_⟩, lawM_cong rfl rfl h.2.2.1, h.2.2.2⟩
    · exact (pk_un (by omega)).trans (h.2.1.1 s t q1 q2)
    · exact (pk_un (by omega)).trans (h.2.1.2.1 l q).1
    · show upd (τ.2.2.1 600 0) (whr num 3) (nI v) (166 + l) = nI (if l = num then v else aCL α l)
      by_cases e : l = num
      · rw [if_pos e, e, ← ew, pk_us]
      · rw [if_neg e, pk_un (by omega)]; exact (h.2.1.2.1 l q).2
    · exact (pk_un (by omega)).trans h.2.1.2.2
  · obtain ⟨rfl, h2⟩ := hw
    have ew : whr num 4 = 178 := rfl
    refine ⟨⟨h.1.1, fun n hn => ⟨(h.1.2 n hn).1, (pk_un (by have h9 : n < (aN α).length := hn; omega)).trans (h.1.2 n hn).2.1, (h.1.2 n hn).2.2⟩⟩, ⟨fun s t q1 q2 => ?_, fun l q => ⟨?_, ?_⟩, ?_⟩, lawM_cong rfl rfl h.2.2.1, h.2.2.2⟩
    · exact (pk_un (by omega)).trans (h.2.1.1 s t q1 q2)
    · exact (pk_un (by omega)).trans (h.2.1.2.1 l q).1
    · exact (pk_un (by omega)).trans (h.2.1.2.1 l q).2
    · show upd (τ.2.2.1 600 0) 178 (nI v) 178 = nI v
      exact pk_us
