/-! reading THE TAPE: the whole text -/
theorem b24_zero (f : Nat) (σ : St) (x3 : Int32) : f_X7_read_b24 (f + 1) σ 0 x3 = some (σ.1 352 0, σ) := by
  rw [f_X7_read_b24]
  unfold f_X7_read_b64
  by_cases h : (120 : Int32) ≤ x3
  · rw [if_pos h, if_pos rfl]
  · rw [if_neg h, if_pos rfl, if_pos rfl]
def RestP (t : Nat → Nat) (len j i : Nat) : Prop := ∃ (b : Bool) (x : Nat) (c : List Int32) (g : GF), x ≤ len ∧ (b = true → i + c.length ≤ len + 1) ∧ (∀ L k f σ, L ≤ i → k ≤ i → len - i < f → RS t len j i L σ → ∃ σ' L' i', bnd2 (f_X7_readLine σ) (fun r5 σ6 => f_X7_read_b24 f σ6 r5 (nI k)) = some (if b = true then -1 else nI x, σ') ∧ RS t len j i' L' σ' ∧ FrR j σ σ' ∧ (b = true → L' = L + c.length ∧ CdAt σ' j L c ∧ ∀ x, x < L → σ'.2.2.1 200 j x = σ.2.2.1 200 j x)) ∧ (∀ τ f x3 x4, MSt t len i 0 τ → len - i + 1 < f → ∃ v τ', f_X12_workOut_b33 f τ x3 x4 1 = some (v, τ') ∧ FrP τ τ' ∧ (b = true → τ'.1 616 0 = -1 ∧ (x3 = 0 → x4 = 0 → v = g (evN (τ.2.2.1 618 0))) ∧ (¬ x3 = 0 → v = x4)) ∧ (b = false → τ'.1 616 0 = nI x)) ∧ (b = true → Txt c g)
theorem rst_1 {t : Nat → Nat} {len j : Nat} (hl : len ≤ 120) (ht : ∀ x, t x < 256) (i : Nat) (hi : i ≤ len) (hnext : ∀ i2, i ≤ i2 → i2 < len → RestP t len j (i2 + 1)) : RestP t len j i := by
  obtain ⟨b1, i2, c1, gd, g2, n1, n2, n3, n4, n5, n6⟩ := line_N (j := j) hl ht i hi
  cases b1 with
  | false =>
    refine ⟨false, i2, [], fun _ => 0, n2, nofun, fun L k f σ hL hk hf h => ?_, fun τ f x3 x4 h hf => ?_, nofun⟩
    · obtain ⟨f, rfl⟩ : ∃ x, f = x + 1 := ⟨f - 1, by omega⟩
      obtain ⟨σ1, L1, q1, q2, q3, _⟩ := n4 L σ hL h
      have q1' : f_X7_readLine σ = some (0, σ1) := q1
      refine ⟨σ1, L1, i2, ?_, q2, q3, nofun⟩
      rw [q1', bnd2_e, b24_zero, q2.2.2.2.1]
      rfl
    · obtain ⟨f, rfl⟩ : ∃ x, f = x + 1 + 1 := ⟨f - 2, by omega⟩
      obtain ⟨τ1, x3', x4', q1, q2, _, q4⟩ := n5 τ (f + 1) x3 x4 h
      have hF := q4 rfl
      refine ⟨x4', τ1, ?_, q2, nofun, fun _ => hF.2.2⟩
      rw [q1]
      unfold f_X12_workOut_b96
      rw [takes_F hF (by omega), bnd2_e, f_X12_workOut_b33, if_pos rfl, if_pos (hF.le0 n2 hl)]
  | true =>
    have n3' := n3 rfl
    by_cases hq : byN t len i2 = 59
    · have hlt : i2 < len := by
        by_cases z : i2 < len
        · exact z
        · have : byN t len i2 = 0 := if_neg z
          omega
      obtain ⟨b, x, c2, gr, m1, m2, m3, m4, m5⟩ := hnext i2 n1 hlt
      refine ⟨b, x, c1 ++ c2, fun e => if gd e = 0 then gr e else g2 e, m1, fun hb => ?_, fun L k f σ hL hk hf h => ?_, fun τ f x3 x4 h hf => ?_, fun hb => n6 rfl c2 gr (m5 hb)⟩
      · have := m2 hb
        rw [List.length_append]
        omega
      · obtain ⟨f, rfl⟩ : ∃ x, f = x + 1 := ⟨f - 1, by omega⟩
        obtain ⟨σ1, L1, q1, q2, q3, q4⟩ := n4 L σ hL h
        have q1' : f_X7_readLine σ = some (1, σ1) := q1
        obtain ⟨x1, x2, x3⟩ := q4 rfl
        obtain ⟨hR, hF⟩ := q2.mv (i2 + 1)
        obtain ⟨σ2, L2, i3, w1, w2, w3, w4⟩ := m3 L1 (k + 1) f _ (by omega) (by omega) (by omega) hR
        refine ⟨σ2, L2, i3, ?_, w2, (q3.tr hF).tr w3, fun hb => ?_⟩
        · rw [q1', bnd2_e, f_X7_read_b24, if_neg (show ¬ (120 : Int32) ≤ nI k from nI_ge (b := 120) (by omega) (by omega)), if_neg one_n0, show f_X7_isAt σ1 (59 : Int32) = _ from isAt_C q2 n2 hl ht (c := 59) (by omega) (by omega), tf_t hq, bnd2_e, if_neg one_n0, q2.2.2.2.1, nI_p1, nI_p1]
          exact w1
        · obtain ⟨y1, y2, y3⟩ := w4 hb
          have y3' : ∀ x, x < L1 → σ2.2.2.1 200 j x = σ1.2.2.1 200 j x := y3
          rw [x1] at y2
          exact ⟨by rw [List.length_append]; omega, cd_app (cd_same x2 y3' (by omega)) y2, fun x hx => (y3' x (by omega)).trans (x3 x hx)⟩
      · obtain ⟨f, rfl⟩ : ∃ x, f = x + 1 := ⟨f - 1, by omega⟩
        obtain ⟨τ1, x3', x4', q1, q2, q3, _⟩ := n5 τ f x3 x4 h
        obtain ⟨p1, p2, p3⟩ := q3 rfl
        obtain ⟨hR, hF⟩ := p1.mv (i2 + 1)
        obtain ⟨v, τ2, w1, w2, w3, w4⟩ := m4 _ f x3' x4' hR (by omega)
        have hF2 := q2.tr hF
        rw [hF2.e618] at w3
        refine ⟨v, τ2, ?_, hF2.tr w2, fun hb => ?_, w4⟩
        · rw [q1]
          unfold f_X12_workOut_b96
          rw [show f_X12_takes τ1 (59 : Int32) = _ from takes_M p1 n2 hl ht (c := 59) (by omega), if_pos hq, bnd2_e]
          exact w1
        · obtain ⟨r1, r2, r3⟩ := w3 hb
          refine ⟨r1, fun h3 h4 => ?_, fun h3 => ?_⟩
          · by_cases hg : gd (evN (τ.2.2.1 618 0)) = 0
            · obtain ⟨e1, e2⟩ := p3 (fun z => z.2 hg)
              rw [show (fun e => if gd e = 0 then gr e else g2 e) (evN (τ.2.2.1 618 0)) = gr (evN (τ.2.2.1 618 0)) from if_pos hg]
              exact r2 (e1.trans h3) (e2.trans h4)
            · obtain ⟨e1, e2⟩ := p2 ⟨h3, hg⟩
              rw [show (fun e => if gd e = 0 then gr e else g2 e) (evN (τ.2.2.1 618 0)) = g2 (evN (τ.2.2.1 618 0)) from if_neg hg]
              exact (r3 (by rw [e1]; exact one_n0)).trans e2
          · obtain ⟨e1, e2⟩ := p3 (fun z => h3 z.1)
            exact (r3 (by rw [e1]; exact h3)).trans e2
    · have hend : ∀ L k f σ, L ≤ i → RS t len j i L σ → ∃ σ1 L1, bnd2 (f_X7_readLine σ) (fun r5 σ6 => f_X7_read_b24 (f + 1) σ6 r5 (nI k)) = some (if i2 = len then -1 else nI i2, σ1) ∧ RS t len j i2 L1 σ1 ∧ FrR j σ σ1 ∧ (L1 = L + c1.length ∧ CdAt σ1 j L c1 ∧ ∀ x, x < L → σ1.2.2.1 200 j x = σ.2.2.1 200 j x) := by
        intro L k f σ hL h
        obtain ⟨σ1, L1, q1, q2, q3, q4⟩ := n4 L σ hL h
        have q1' : f_X7_readLine σ = some (1, σ1) := q1
        refine ⟨σ1, L1, ?_, q2, q3, q4 rfl⟩
        have e64 : f_X7_read_b64 σ1 1 = some (if i2 = len then -1 else nI i2, σ1) := by
          unfold f_X7_read_b64
          rw [if_neg one_n0, q2.2.2.2.1, q2.1]
          by_cases z : i2 = len
          · rw [if_pos (congrArg nI z), if_pos z]
          · rw [if_neg (nI_lit_ne z (by omega) (by omega)), if_neg z]
        rw [q1', bnd2_e, f_X7_read_b24]
        by_cases hk : (120 : Int32) ≤ nI k
        · rw [if_pos hk]
          exact e64
        · rw [if_neg hk, if_neg one_n0, show f_X7_isAt σ1 (59 : Int32) = _ from isAt_C q2 n2 hl ht (c := 59) (by omega) (by omega), tf_f hq, bnd2_e, if_pos rfl]
          exact e64
      by_cases he : i2 = len
      · refine ⟨true, i2, c1 ++ [], fun e => if gd e = 0 then (fun _ => 0) e else g2 e, n2, fun _ => by rw [List.append_nil]; omega, fun L k f σ hL hk hf h => ?_, fun τ f x3 x4 h hf => ?_, fun _ => n6 rfl [] _ txt_nil⟩
        · obtain ⟨f, rfl⟩ : ∃ x, f = x + 1 := ⟨f - 1, by omega⟩
          obtain ⟨σ1, L1, q1, q2, q3, q4⟩ := hend L k f σ hL h
          rw [if_pos he] at q1
          rw [List.append_nil]
          exact ⟨σ1, L1, i2, q1, q2, q3, fun _ => q4⟩
        · obtain ⟨f, rfl⟩ : ∃ x, f = x + 1 + 1 := ⟨f - 2, by omega⟩
          obtain ⟨τ1, x3', x4', q1, q2, q3, _⟩ := n5 τ (f + 1) x3 x4 h
          obtain ⟨p1, p2, p3⟩ := q3 rfl
          refine ⟨x4', τ1, ?_, q2, fun _ => ⟨p1.2.2.1, fun h3 h4 => ?_, fun h3 => (p3 (fun z => h3 z.1)).2⟩, nofun⟩
          · rw [q1]
            unfold f_X12_workOut_b96
            rw [show f_X12_takes τ1 (59 : Int32) = _ from takes_M p1 n2 hl ht (c := 59) (by omega), if_neg hq, bnd2_e, f_X12_workOut_b33, if_pos rfl, if_neg p1.nle0, p1.1.1, p1.2.1, if_pos (nI_le (by omega) (by omega))]
          · by_cases hg : gd (evN (τ.2.2.1 618 0)) = 0
            · rw [show (fun e => if gd e = 0 then (fun _ => (0 : Int32)) e else g2 e) (evN (τ.2.2.1 618 0)) = 0 from if_pos hg]
              exact (p3 (fun z => z.2 hg)).2.trans h4
            · rw [show (fun e => if gd e = 0 then (fun _ => (0 : Int32)) e else g2 e) (evN (τ.2.2.1 618 0)) = g2 (evN (τ.2.2.1 618 0)) from if_neg hg]
              exact (p2 ⟨h3, hg⟩).2
      · refine ⟨false, i2, [], fun _ => 0, n2, nofun, fun L k f σ hL hk hf h => ?_, fun τ f x3 x4 h hf => ?_, nofun⟩
        · obtain ⟨f, rfl⟩ : ∃ x, f = x + 1 := ⟨f - 1, by omega⟩
          obtain ⟨σ1, L1, q1, q2, q3, q4⟩ := hend L k f σ hL h
          rw [if_neg he] at q1
          exact ⟨σ1, L1, i2, q1, q2, q3, nofun⟩
        · obtain ⟨f, rfl⟩ : ∃ x, f = x + 1 + 1 := ⟨f - 2, by omega⟩
          obtain ⟨τ1, x3', x4', q1, q2, q3, _⟩ := n5 τ (f + 1) x3 x4 h
          obtain ⟨p1, p2, p3⟩ := q3 rfl
          obtain ⟨τ2, w1, w2, w3⟩ := wrong_M p1 n2
          refine ⟨0, τ2, ?_, q2.tr w2, nofun, fun _ => w3.2.2⟩
          rw [q1]
          unfold f_X12_workOut_b96
          rw [show f_X12_takes τ1 (59 : Int32) = _ from takes_M p1 n2 hl ht (c := 59) (by omega), if_neg hq, bnd2_e, f_X12_workOut_b33, if_pos rfl, if_neg p1.nle0, p1.1.1, p1.2.1, if_neg (nI_ge (show i2 < len by omega) (by omega)), w1, bnd2_e]
theorem rest_N {t : Nat → Nat} {len j : Nat} (hl : len ≤ 120) (ht : ∀ x, t x < 256) : ∀ m i, len - i ≤ m → i ≤ len → RestP t len j i := by
  intro m
  induction m with
  | zero =>
    intro i hm hi
    exact rst_1 hl ht i hi (fun i2 h1 h2 => by omega)
  | succ m ih =>
    intro i hm hi
    exact rst_1 hl ht i hi (fun i2 h1 h2 => ih (i2 + 1) (by omega) h2)
