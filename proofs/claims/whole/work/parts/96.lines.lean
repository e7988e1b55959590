/-! reading THE TAPE: lines -/
/-- the code of a whole text, from a line's begin on -/
def Txt (c : List Int32) (g : GF) : Prop := ∀ (σ : St) (j i n L : Nat), CdAt σ j i c → i + c.length = L → L ≤ 121 → σ.1 203 j = nI L → ∃ F, f_X4_worth_b54 (n + c.length + 1) σ j (nI 0) 0 (nI i) = some (g (evN (σ.2.2.1 202 j)), sA σ 201 j F)
theorem txt_nil : Txt [] (fun _ => 0) := by
  intro σ j i n L hc hi hL h203
  have hi' : i = L := hi
  refine ⟨σ.2.2.1 201 j, ?_⟩
  rw [f_X4_worth_b54, h203, if_pos (nI_le (by omega) (by omega)), sA_self]
theorem txt_1 {c1 rest : List Int32} {g1 : GF} (h1 : Seg c1 g1) : Txt (c1 ++ [-59] ++ rest) g1 := by
  intro σ j i n L hc hi hL h203
  have hlen : (c1 ++ [-59] ++ rest).length = c1.length + 1 + rest.length := by rw [List.length_append, len_a1]
  rw [hlen] at hi ⊢
  have hB := cd_1 (cd_r (cd_l hc))
  obtain ⟨F, f1, f2, f3⟩ := (h1.2 σ j i 0 (n + rest.length + 1 + 1) L (cd_l (cd_l hc)) (by omega) hL h203 (Nat.zero_le _)).1
  rw [show n + (c1.length + 1 + rest.length) + 1 = n + rest.length + 1 + 1 + c1.length by omega, f1]
  refine ⟨F, ?_⟩
  rw [f_X4_worth_b54, show (sA σ 201 j F).1 203 j = nI L from h203, if_neg (nI_ge (show i + c1.length < L by omega) (by omega)), chk_in (show i + c1.length < 128 by omega) (by omega), nI_clamp (by omega), sA201_200, hB, bnd_e, if_pos rfl, if_pos rfl, sA_at, ← f2]
  rfl
theorem txt_2 {c1 c2 rest : List Int32} {g1 g2 gr : GF} (h1 : Seg c1 g1) (h2 : Seg c2 g2) (hr : Txt rest gr) : Txt (c1 ++ [-63] ++ c2 ++ [-59] ++ rest) (fun e => if g1 e = 0 then gr e else g2 e) := by
  intro σ j i n L hc hi hL h203
  have hlen0 : (c1 ++ [-63] ++ c2).length = c1.length + 1 + c2.length := by rw [List.length_append, len_a1]
  have hlen1 : (c1 ++ [-63] ++ c2 ++ [-59]).length = c1.length + 1 + c2.length + 1 := by rw [len_a1, hlen0]
  have hlen : (c1 ++ [-63] ++ c2 ++ [-59] ++ rest).length = c1.length + 1 + c2.length + 1 + rest.length := by rw [List.length_append, hlen1]
  rw [hlen] at hi ⊢
  have hR := cd_r hc
  have hD := cd_1 (cd_r (cd_l hc))
  have hC := cd_r (cd_l (cd_l hc))
  have hB := cd_1 (cd_r (cd_l (cd_l (cd_l hc))))
  rw [hlen1] at hR
  rw [hlen0] at hD
  rw [len_a1] at hC
  obtain ⟨F, f1, f2, f3⟩ := (h1.2 σ j i 0 (n + rest.length + 1 + 1 + c2.length + 1) L (cd_l (cd_l (cd_l (cd_l hc)))) (by omega) hL h203 (Nat.zero_le _)).1
  rw [show n + (c1.length + 1 + c2.length + 1 + rest.length) + 1 = n + rest.length + 1 + 1 + c2.length + 1 + c1.length by omega, f1]
  have e0 : (sA σ 201 j F).2.2.1 201 j (0 : Int32).toNatClampNeg = g1 (evN (σ.2.2.1 202 j)) := by
    rw [sA_at, ← f2]
    rfl
  have h203' : (sA σ 201 j F).1 203 j = nI L := h203
  have n1 : ¬ (-63 : Int32) = -59 := by decide
  have n2 : ¬ (-59 : Int32) = -63 := by decide
  rw [f_X4_worth_b54, h203', if_neg (nI_ge (show i + c1.length < L by omega) (by omega)), chk_in (show i + c1.length < 128 by omega) (by omega), nI_clamp (by omega), sA201_200, hB, bnd_e, if_neg n1]
  unfold f_X4_worth_b91
  rw [if_neg n1, if_pos rfl]
  unfold f_X4_worth_b105
  rw [if_pos rfl, e0]
  by_cases hg : g1 (evN (σ.2.2.1 202 j)) = 0
  · rw [if_pos hg]
    unfold f_X4_worth_b126
    rw [bnd_e, nI_p1]
    have hsk : f_X4_worth_b54 (n + rest.length + 1 + 1 + c2.length) (sA σ 201 j F) j 0 1 (nI (i + c1.length + 1)) = f_X4_worth_b54 (n + rest.length + 1 + 1) (sA σ 201 j F) j 0 1 (nI (i + c1.length + 1 + c2.length)) := (h2.2 (sA σ 201 j F) j (i + c1.length + 1) 0 (n + rest.length + 1 + 1) L hC (by omega) hL h203' (Nat.zero_le _)).2
    rw [hsk, f_X4_worth_b54, h203', if_neg (nI_ge (show i + c1.length + 1 + c2.length < L by omega) (by omega)), chk_in (show i + c1.length + 1 + c2.length < 128 by omega) (by omega), nI_clamp (by omega), sA201_200, show i + c1.length + 1 + c2.length = i + (c1.length + 1 + c2.length) by omega, hD, bnd_e, if_pos rfl, if_neg one_n0]
    unfold f_X4_worth_b91
    rw [if_pos rfl]
    unfold f_X4_worth_b105
    rw [if_neg n2]
    unfold f_X4_worth_b125 f_X4_worth_b126
    rw [bnd_e, nI_p1]
    obtain ⟨F2, q⟩ := hr (sA σ 201 j F) j (i + (c1.length + 1 + c2.length + 1)) n L hR (by omega) hL h203'
    refine ⟨F2, ?_⟩
    rw [sA_sA] at q
    rw [show i + (c1.length + 1 + c2.length) + 1 = i + (c1.length + 1 + c2.length + 1) by omega, show (fun e => if g1 e = 0 then gr e else g2 e) (evN (σ.2.2.1 202 j)) = gr (evN (σ.2.2.1 202 j)) from if_pos hg]
    exact q
  · rw [if_neg hg]
    unfold f_X4_worth_b125 f_X4_worth_b126
    rw [bnd_e, nI_p1]
    obtain ⟨F2, q1, q2, q3⟩ := (h2.2 (sA σ 201 j F) j (i + c1.length + 1) 0 (n + rest.length + 1 + 1) L hC (by omega) hL h203' (Nat.zero_le _)).1
    have q1' : f_X4_worth_b54 (n + rest.length + 1 + 1 + c2.length) (sA σ 201 j F) j 0 0 (nI (i + c1.length + 1)) = f_X4_worth_b54 (n + rest.length + 1 + 1) (sA (sA σ 201 j F) 201 j F2) j (nI (0 + 1)) 0 (nI (i + c1.length + 1 + c2.length)) := q1
    refine ⟨F2, ?_⟩
    rw [q1', sA_sA, f_X4_worth_b54, show (sA σ 201 j F2).1 203 j = nI L from h203, if_neg (nI_ge (show i + c1.length + 1 + c2.length < L by omega) (by omega)), chk_in (show i + c1.length + 1 + c2.length < 128 by omega) (by omega), nI_clamp (by omega), sA201_200, show i + c1.length + 1 + c2.length = i + (c1.length + 1 + c2.length) by omega, hD, bnd_e, if_pos rfl, if_pos rfl, sA_at, show (fun e => if g1 e = 0 then gr e else g2 e) (evN (σ.2.2.1 202 j)) = g2 (evN (σ.2.2.1 202 j)) from if_neg hg]
    have q2' : F2 0 = g2 (evN (σ.2.2.1 202 j)) := q2
    rw [← q2']
    rfl
def LnS (c : List Int32) (gd g2 : GF) : Prop := ∀ rest gr, Txt rest gr → Txt (c ++ rest) (fun e => if gd e = 0 then gr e else g2 e)
theorem lend_C {t : Nat → Nat} {len j i L : Nat} {σ : St} (h : RS t len j i L σ) (x : Int32) : ∃ σ' L', f_X7_readLine_b46 σ x = some (x, σ') ∧ RS t len j i L' σ' ∧ FrR j σ σ' ∧ (L < 128 → L' = L + 1 ∧ σ'.2.2.1 200 j L = -59 ∧ ∀ x, x < L → σ'.2.2.1 200 j x = σ.2.2.1 200 j x) := by
  obtain ⟨σ2, L2, w1, w2, w3, w4⟩ := emit_C h (-59)
  refine ⟨σ2, L2, ?_, w2, w3, w4⟩
  unfold f_X7_readLine_b46
  rw [RS.dr h, w1, bnd1_e]
def LN (t : Nat → Nat) (len j i : Nat) : Prop := ∃ (b : Bool) (i2 : Nat) (c : List Int32) (gd g2 : GF), i ≤ i2 ∧ i2 ≤ len ∧ (b = true → i + c.length ≤ i2 + 1) ∧ CC t len j f_X7_readLine i b i2 c ∧ (∀ τ f x3 x4, MSt t len i 0 τ → ∃ τ' x3' x4', f_X12_workOut_b33 (f + 1) τ x3 x4 1 = f_X12_workOut_b96 (f_X12_workOut_b33 f) τ' x3' x4' ∧ FrP τ τ' ∧ (b = true → MSt t len i2 0 τ' ∧ ((x3 = 0 ∧ ¬ gd (evN (τ.2.2.1 618 0)) = 0) → x3' = 1 ∧ x4' = g2 (evN (τ.2.2.1 618 0))) ∧ (¬ (x3 = 0 ∧ ¬ gd (evN (τ.2.2.1 618 0)) = 0) → x3' = x3 ∧ x4' = x4)) ∧ (b = false → MF t len i2 τ')) ∧ (b = true → LnS c gd g2)
theorem line_N {t : Nat → Nat} {len j : Nat} (hl : len ≤ 120) (ht : ∀ x, t x < 256) (i : Nat) (hi : i ≤ len) : LN t len j i := by
  obtain ⟨b1, i1, c1, g1, n1, n2, n3, n4, n5, n6⟩ := ex_N (j := j) hl ht i hi
  cases b1 with
  | false =>
    refine ⟨false, i1, [], fun _ => 0, fun _ => 0, n1, n2, nofun, fun L σ hL h => ?_, fun τ f x3 x4 h => ?_, nofun⟩
    · obtain ⟨σ1, L1, q1, q2, q3, _⟩ := n4 L σ hL h
      have q1' : f_X7_readRank σ 0 0 = some (0, σ1) := q1
      obtain ⟨σ2, L2, w1, w2, w3, _⟩ := lend_C q2 0
      refine ⟨σ2, L2, ?_, w2, q3.tr w3, nofun⟩
      unfold f_X7_readLine f_X7_readLine0
      rw [q1', bnd2_e, if_pos rfl, w1]
      exact chkB_0 σ2
    · obtain ⟨v, τ1, q1, q2, q3, q4⟩ := n5 τ h
      have hF := q4 rfl
      refine ⟨τ1, x3, x4, ?_, q2, nofun, fun _ => hF⟩
      rw [f_X12_workOut_b33, if_neg one_n0, q1, bnd2_e, takes_F hF (by omega), bnd2_e, if_pos rfl]
      unfold f_X12_workOut_b74
      rw [if_pos (hF.le0 n2 hl)]
  | true =>
    have n3' := n3 rfl
    by_cases hq : byN t len i1 = 63
    · have hlt : i1 < len := by
        by_cases z : i1 < len
        · exact z
        · have : byN t len i1 = 0 := if_neg z
          omega
      obtain ⟨b2, i2, c2, g2, m1, m2, m3, m4, m5, m6⟩ := ex_N (j := j) hl ht (i1 + 1) hlt
      have hlen1 : (c1 ++ [-63] ++ c2).length = c1.length + 1 + c2.length := by rw [List.length_append, len_a1]
      have hlen : (c1 ++ [-63] ++ c2 ++ [-59]).length = c1.length + 1 + c2.length + 1 := by rw [len_a1, hlen1]
      refine ⟨b2, i2, c1 ++ [-63] ++ c2 ++ [-59], g1, g2, by omega, m2, fun hb => ?_, fun L σ hL h => ?_, fun τ f x3 x4 h => ?_, fun hb rest gr hr => txt_2 (n6 rfl) (m6 hb) hr⟩
      · have := m3 hb
        omega
      · obtain ⟨σ1, L1, q1, q2, q3, q4⟩ := n4 L σ hL h
        have q1' : f_X7_readRank σ 0 0 = some (1, σ1) := q1
        obtain ⟨x1, x2, x3⟩ := q4 rfl
        obtain ⟨hR, hF⟩ := q2.mv (i1 + 1)
        obtain ⟨σ2, L2, w1, w2, w3, w4⟩ := emit_C hR (-63)
        obtain ⟨y1, y2, y3⟩ := w4 (by omega)
        obtain ⟨σ3, L3, u1, u2, u3, u4⟩ := m4 L2 σ2 (by omega) w2
        have u1' : f_X7_readRank σ2 0 0 = some (tf (b2 = true), σ3) := u1
        obtain ⟨σ4, L4, p1, p2, p3, p4⟩ := lend_C u2 (tf (b2 = true))
        refine ⟨σ4, L4, ?_, p2, (((q3.tr hF).tr w3).tr u3).tr p3, fun hb => ?_⟩
        · unfold f_X7_readLine f_X7_readLine0
          rw [q1', bnd2_e, if_neg one_n0, show f_X7_isAt σ1 (63 : Int32) = _ from isAt_C q2 n2 hl ht (c := 63) (by omega) (by omega), tf_t hq, bnd2_e, if_neg one_n0, q2.2.2.2.1, nI_p1, RS.dr hR, w1, bnd1_e, u1', bnd2_e, p1]
          exact chkB_tfb b2 σ4
        · have m3' := m3 hb
          obtain ⟨z1, z2, z3⟩ := u4 hb
          obtain ⟨v1, v2, v3⟩ := p4 (by omega)
          have y3' : ∀ x, x < L1 → σ2.2.2.1 200 j x = σ1.2.2.1 200 j x := y3
          have d1 : CdAt σ4 j L c1 := cd_same (cd_same (cd_same x2 y3' (by omega)) z3 (by omega)) v3 (by omega)
          have d2 : CdAt σ4 j (L + c1.length) [-63] := cd_same (cd_same (cd_one (by rw [← x1]; exact y2)) z3 (show L + c1.length + 1 ≤ L2 by omega)) v3 (show L + c1.length + 1 ≤ L3 by omega)
          have d3 : CdAt σ4 j (L + (c1 ++ [-63]).length) c2 := by
            rw [len_a1, show L + (c1.length + 1) = L2 by omega]
            exact cd_same z2 v3 (by omega)
          have d4 : CdAt σ4 j (L + (c1 ++ [-63] ++ c2).length) [-59] := by
            rw [hlen1, show L + (c1.length + 1 + c2.length) = L3 by omega]
            exact cd_one v2
          exact ⟨by rw [hlen]; omega, cd_app (cd_app (cd_app d1 d2) d3) d4, fun x hx => (v3 x (by omega)).trans ((z3 x (by omega)).trans ((y3' x (by omega)).trans (x3 x hx)))⟩
      · obtain ⟨v, τ1, q1, q2, q3, q4⟩ := n5 τ h
        obtain ⟨p1, p2⟩ := q3 rfl
        obtain ⟨hR, hF⟩ := p1.mv (i1 + 1)
        obtain ⟨w, τ2, w1, w2, w3, w4⟩ := m5 _ hR
        have hF2 := q2.tr hF
        rw [hF2.e618] at w3
        have e66 : f_X12_workOut_b33 (f + 1) τ x3 x4 1 = f_X12_workOut_b74 (f_X12_workOut_b33 f) τ2 x3 x4 w (if v = 0 then 0 else 1) := by
          rw [f_X12_workOut_b33, if_neg one_n0, q1, bnd2_e, show f_X12_takes τ1 (63 : Int32) = _ from takes_M p1 n2 hl ht (c := 63) (by omega), if_pos hq, bnd2_e, if_neg one_n0]
          by_cases hv : v = 0
          · rw [if_pos hv, if_pos hv]
            unfold f_X12_workOut_b66
            rw [w1, bnd2_e]
          · rw [if_neg hv, if_neg hv]
            unfold f_X12_workOut_b66
            rw [w1, bnd2_e]
        rw [e66]
        unfold f_X12_workOut_b74
        cases b2 with
        | false =>
          have hf := w4 rfl
          refine ⟨τ2, x3, x4, ?_, hF2.tr w2, nofun, fun _ => hf⟩
          rw [if_pos (hf.le0 m2 hl)]
        | true =>
          obtain ⟨r1, r2⟩ := w3 rfl
          rw [if_neg r1.nle0]
          have p2' : v = g1 (evN (τ.2.2.1 618 0)) := p2
          by_cases hv : v = 0
          · rw [if_pos hv, if_pos rfl]
            exact ⟨τ2, x3, x4, rfl, hF2.tr w2, fun _ => ⟨r1, fun z => absurd (p2'.symm.trans hv) z.2, fun _ => ⟨rfl, rfl⟩⟩, nofun⟩
          · rw [if_neg hv, if_neg one_n0]
            by_cases h3 : x3 = 0
            · rw [if_pos h3]
              exact ⟨τ2, 1, w, rfl, hF2.tr w2, fun _ => ⟨r1, fun _ => ⟨rfl, r2⟩, fun z => absurd ⟨h3, fun y => hv (p2'.trans y)⟩ z⟩, nofun⟩
            · rw [if_neg h3]
              exact ⟨τ2, x3, x4, rfl, hF2.tr w2, fun _ => ⟨r1, fun z => absurd z.1 h3, fun _ => ⟨rfl, rfl⟩⟩, nofun⟩
    · refine ⟨true, i1, c1 ++ [-59], fun _ => 1, g1, n1, n2, fun _ => by rw [len_a1]; omega, fun L σ hL h => ?_, fun τ f x3 x4 h => ?_, fun _ rest gr hr => ?_⟩
      · obtain ⟨σ1, L1, q1, q2, q3, q4⟩ := n4 L σ hL h
        have q1' : f_X7_readRank σ 0 0 = some (1, σ1) := q1
        obtain ⟨x1, x2, x3⟩ := q4 rfl
        obtain ⟨σ2, L2, w1, w2, w3, w4⟩ := lend_C q2 1
        obtain ⟨y1, y2, y3⟩ := w4 (by omega)
        refine ⟨σ2, L2, ?_, w2, q3.tr w3, fun _ => ⟨by rw [len_a1]; omega, cd_app (cd_same x2 y3 (by omega)) (cd_one (by rw [← x1]; exact y2)), fun x hx => (y3 x (by omega)).trans (x3 x hx)⟩⟩
        unfold f_X7_readLine f_X7_readLine0
        rw [q1', bnd2_e, if_neg one_n0, show f_X7_isAt σ1 (63 : Int32) = _ from isAt_C q2 n2 hl ht (c := 63) (by omega) (by omega), tf_f hq, bnd2_e, if_pos rfl, w1]
        exact chkB_1 σ2
      · obtain ⟨v, τ1, q1, q2, q3, q4⟩ := n5 τ h
        obtain ⟨p1, p2⟩ := q3 rfl
        rw [f_X12_workOut_b33, if_neg one_n0, q1, bnd2_e, show f_X12_takes τ1 (63 : Int32) = _ from takes_M p1 n2 hl ht (c := 63) (by omega), if_neg hq, bnd2_e, if_pos rfl]
        unfold f_X12_workOut_b74
        rw [if_neg p1.nle0, if_neg one_n0]
        by_cases h3 : x3 = 0
        · rw [if_pos h3]
          exact ⟨τ1, 1, v, rfl, q2, fun _ => ⟨p1, fun _ => ⟨rfl, p2⟩, fun z => absurd ⟨h3, one_n0⟩ z⟩, nofun⟩
        · rw [if_neg h3]
          exact ⟨τ1, x3, x4, rfl, q2, fun _ => ⟨p1, fun z => absurd z.1 h3, fun _ => ⟨rfl, rfl⟩⟩, nofun⟩
      · rw [show (fun e => if (fun _ => (1 : Int32)) e = 0 then gr e else g1 e) = g1 from funext fun e => if_neg one_n0]
        exact txt_1 (n6 rfl)
