/-! 41 shift -/
theorem hasRunN_C (σ : St) (d : Nat) (p n : Int32) : f_X8_hasRun σ d p n = some (tf (0 ≤ p ∧ ¬ σ.1 403 d - n < p), σ) := by
  have h : f_X8_hasRun0 σ d p n = some (tf (0 ≤ p ∧ ¬ σ.1 403 d - n < p), σ) := by
    unfold f_X8_hasRun0
    by_cases h1 : p < 0
    · rw [if_pos h1, tf_f (fun q => absurd q.1 (Int32.not_le.mpr h1))]
    · rw [if_neg h1]
      by_cases h2 : σ.1 403 d - n < p
      · rw [if_pos h2, tf_f (fun q => q.2 h2)]
      · rw [if_neg h2, tf_t ⟨Int32.not_lt.mp h1, h2⟩]
  unfold f_X8_hasRun
  rw [h, chkB_tf]
theorem run_in {len : Nat} {p n : Int32} (hl : len ≤ 60) (hn : 0 ≤ n) (hp : 0 ≤ p) (h : ¬ nI len - n < p) : ∃ i m, p = nI i ∧ n = nI m ∧ i + m ≤ len := by
  obtain ⟨i, hi, ei⟩ := nI_of (Int32.not_lt.mpr hp)
  obtain ⟨m, hm, em⟩ := nI_of (Int32.not_lt.mpr hn)
  refine ⟨i, m, ei, em, ?_⟩
  rw [ei, em, fa_lt] at h
  have e1 := nI_toInt (n := len) (by omega)
  have e2 := nI_toInt hi
  have e3 := nI_toInt hm
  rw [fb_subI (by rw [e1, e3]; omega) (by rw [e1, e3]; omega), e1, e2, e3] at h
  omega
theorem shiftA {d i n : Nat} (hd : d < 6) (hin : i + n ≤ 60) {x3 x4 : Int32} : ∀ m k f τ, k + m = n → m < f → ∃ G, f_X12_shift_b113 f τ (nI d) (nI i) x3 x4 (nI n) (nI k) = f_X12_shift_b150 256 (sL τ 642 0 G) x3 x4 (nI n) (0 : Int32) ∧ (∀ j, k ≤ j → j < n → G j = τ.2.2.2.1 641 0 (60 * d + i + j)) ∧ ∀ j, j < k → G j = τ.2.2.2.1 642 0 j := by
  intro m
  induction m with
  | zero =>
    intro k f τ hk hf
    obtain ⟨f, rfl⟩ : ∃ x, f = x + 1 := ⟨f - 1, by omega⟩
    rw [f_X12_shift_b113, if_pos (nI_le (by omega) (by omega))]
    exact ⟨τ.2.2.2.1 642 0, by rw [sL_self], fun j h1 h2 => absurd h2 (by omega), fun j _ => rfl⟩
  | succ m ih =>
    intro k f τ hk hf
    obtain ⟨f, rfl⟩ : ∃ x, f = x + 1 := ⟨f - 1, by omega⟩
    rw [f_X12_shift_b113, if_neg (nI_ge (show k < n by omega) (by omega)), ix60, nI_add, chk_in (show 60 * d + i + k < 360 by omega) (by omega), chk_in (show k < 60 by omega) (by omega), nI_clamp (show k < 2 ^ 31 by omega), nI_clamp (show 60 * d + i + k < 2 ^ 31 by omega)]
    simp only [bnd_e, nI_p1]
    obtain ⟨G, h1, h2, h3⟩ := ih (k + 1) f (sL τ 642 0 (vp_updL (τ.2.2.2.1 642 0) k (τ.2.2.2.1 641 0 (60 * d + i + k)))) (by omega) (by omega)
    rw [sL_sL] at h1
    refine ⟨G, h1, fun j q1 q2 => ?_, fun j hj => ?_⟩
    · by_cases e : j = k
      · subst e
        exact (h3 j (by omega)).trans pk_uLs
      · exact h2 j (by omega) q2
    · exact (h3 j (by omega)).trans (pk_uLn (by omega))
theorem shiftB {e j n : Nat} (he : e < 6) (hjn : j + n ≤ 60) : ∀ m k f τ, k + m = n → m < f → ∃ G, f_X12_shift_b150 f τ (nI e) (nI j) (nI n) (nI k) = some (nI n, sL τ 641 0 G) ∧ (∀ x, k ≤ x → x < n → G (60 * e + j + x) = τ.2.2.2.1 642 0 x) ∧ ∀ x, (x < 60 * e + j + k ∨ 60 * e + j + n ≤ x) → G x = τ.2.2.2.1 641 0 x := by
  intro m
  induction m with
  | zero =>
    intro k f τ hk hf
    obtain ⟨f, rfl⟩ : ∃ x, f = x + 1 := ⟨f - 1, by omega⟩
    rw [f_X12_shift_b150, if_pos (nI_le (by omega) (by omega))]
    exact ⟨τ.2.2.2.1 641 0, by rw [sL_self], fun x h1 h2 => absurd h2 (by omega), fun x _ => rfl⟩
  | succ m ih =>
    intro k f τ hk hf
    obtain ⟨f, rfl⟩ : ∃ x, f = x + 1 := ⟨f - 1, by omega⟩
    rw [f_X12_shift_b150, if_neg (nI_ge (show k < n by omega) (by omega)), ix60, nI_add, chk_in (show k < 60 by omega) (by omega), chk_in (show 60 * e + j + k < 360 by omega) (by omega), nI_clamp (show k < 2 ^ 31 by omega), nI_clamp (show 60 * e + j + k < 2 ^ 31 by omega)]
    simp only [bnd_e, nI_p1]
    obtain ⟨G, h1, h2, h3⟩ := ih (k + 1) f (sL τ 641 0 (vp_updL (τ.2.2.2.1 641 0) (60 * e + j + k) (τ.2.2.2.1 642 0 k))) (by omega) (by omega)
    rw [sL_sL] at h1
    refine ⟨G, h1, fun x q1 q2 => ?_, fun x hx => ?_⟩
    · by_cases q : x = k
      · subst q
        exact (h3 (60 * e + j + x) (by omega)).trans pk_uLs
      · exact h2 x (by omega) q2
    · exact (h3 x (by omega)).trans (pk_uLn (by omega))
theorem shM_t {k : Nat} {α : Ab} {τ : St} (ho : OkA k α) (hm : AbsM α τ) {d : Nat} (hd : d < 6) : (τ.2.2.1 639 0 d < 0 ↔ (aSH α d).1 = 0) ∧ (¬ 0 ≤ τ.2.2.1 639 0 d ↔ (aSH α d).1 = 0) ∧ (¬ (aSH α d).1 = 0 → (τ.2.2.1 639 0 d < 50 ↔ ¬ 51 ≤ (aSH α d).1)) := by
  have hb : (aSH α d).1 ≤ 55 := by
    have h50 := (oSp ho).1
    rcases sh3 ho hd with z | z | z <;> omega
  rw [sh_M ho hm hd]
  by_cases h : (aSH α d).1 = 0
  · rw [if_pos h]
    exact ⟨⟨fun _ => h, fun _ => by decide⟩, ⟨fun _ => h, fun _ => by decide⟩, fun q => absurd h q⟩
  · rw [if_neg h]
    refine ⟨⟨fun q => absurd q (nI_n0 (by omega)), fun q => absurd q h⟩, ⟨fun q => absurd (nI_0le (by omega)) q, fun q => absurd q h⟩, fun _ => ?_⟩
    rw [show (50 : Int32) = nI 50 from rfl, nI_ltI (by omega) (by omega)]
    omega
theorem st41 (k : Nat) : Step_41 (Rel k) (Rel (k + 1)) := by
  intro σ τ p q r s t hr
  obtain ⟨α, ho, hc, hm⟩ := hr
  have hR : Rel (k + 1) σ τ := ⟨α, okA_mono ho, hc, hm⟩
  unfold f_X11_shift f_X12_shift
  rcases shelf_both p with ⟨d, hd, ed, h1, h2⟩ | ⟨h1, h2⟩
  · rw [h1, h2, bnd1_e, bnd1_e, if_neg one_n0, if_neg one_n0]
    rcases shelf_both r with ⟨e, he, ee, h3, h4⟩ | ⟨h3, h4⟩
    · rw [h3, h4, bnd1_e, bnd1_e, if_neg one_n0, if_neg one_n0]
      subst ed
      subst ee
      obtain ⟨m1, m2, m3⟩ := shM_t ho hm hd
      obtain ⟨m4, m5, m6⟩ := shM_t ho hm he
      simp only [chk_in hd (show 6 ≤ 2000000000 by omega), chk_in he (show 6 ≤ 2000000000 by omega)]
      simp only [nI_clamp (show d < 2 ^ 31 by omega), nI_clamp (show e < 2 ^ 31 by omega)]
      rw [isEmpty_C ho hc hd, bnd2_e]
      by_cases td : (aSH α d).1 = 0
      · rw [tf_t td, if_neg one_n0, if_pos (m1.mpr td)]
        exact ⟨_, _, _, rfl, rfl, hR⟩
      · rw [tf_f td, if_pos rfl, if_neg (fun y => td (m1.mp y)), isEmpty_C ho hc he, bnd2_e]
        by_cases te : (aSH α e).1 = 0
        · rw [tf_t te, if_neg one_n0, if_neg (m5.mpr te)]
          exact ⟨_, _, _, rfl, rfl, hR⟩
        · rw [tf_f te, if_pos rfl, if_pos (Decidable.of_not_not (fun y => te (m5.mp y))), isRow_C ho hc hd, bnd2_e]
          by_cases rd : 51 ≤ (aSH α d).1
          · obtain ⟨a1, a2, a3⟩ := row_C ho hc hd rd
            have hsd := (cSh hc d hd).2.2 rd
            have a4 := (row_M hm hd rd).1
            rw [tf_t rd, if_neg one_n0, if_neg (fun y => (m3 td).mp y rd), isRow_C ho hc he, bnd2_e, sh_M ho hm hd, sh_M ho hm he, if_neg td, if_neg te]
            have hbd : (aSH α d).1 ≤ 55 := by rcases sh3 ho hd with z | z | z <;> omega
            have hbe : (aSH α e).1 ≤ 55 := by
              have h50 := (oSp ho).1
              rcases sh3 ho he with z | z | z <;> omega
            by_cases re : 51 ≤ (aSH α e).1
            · obtain ⟨b1, b2, b3⟩ := row_C ho hc he re
              have hse := (cSh hc e he).2.2 re
              have b4 := (row_M hm he re).1
              rw [tf_t re, if_neg one_n0, hsd.2.1, hse.2.1]
              by_cases rs : (aSH α d).1 = (aSH α e).1
              · rw [if_pos (show nI ((aSH α d).1 - 51) = nI ((aSH α e).1 - 51) by rw [rs]), if_pos (show nI ((aSH α d).1 - 1) = nI ((aSH α e).1 - 1) by rw [rs])]
                by_cases t0 : t < 0
                · rw [if_pos t0, if_pos t0]
                  exact ⟨_, _, _, rfl, rfl, hR⟩
                · rw [if_neg t0, if_neg t0, hasRunN_C, bnd2_e, a2, a4, b4]
                  by_cases q0 : 0 ≤ q ∧ ¬ nI (aSH α d).2.1 - t < q
                  · rw [tf_t q0, if_neg one_n0, if_neg (Int32.not_lt.mpr q0.1), if_neg q0.2, hasRunN_C, bnd2_e, b2]
                    by_cases s0 : 0 ≤ s ∧ ¬ nI (aSH α e).2.1 - t < s
                    · rw [tf_t s0, if_neg one_n0, if_neg (Int32.not_lt.mpr s0.1), if_pos (Int32.not_lt.mp s0.2)]
                      obtain ⟨i, n, ei, en, hin⟩ := run_in a1 (Int32.not_lt.mp t0) q0.1 q0.2
                      obtain ⟨j, n2, ej, en2, hjn⟩ := run_in b1 (Int32.not_lt.mp t0) s0.1 s0.2
                      have hnn : n2 = n := (nI_eq (by omega) (by omega)).mp (en2.symm.trans en)
                      subst hnn
                      subst ei
                      subst ej
                      subst en
                      rw [chk_e (nI_n0 (by omega)), chk_e (nI_n0 (by omega)), chk_e (nI_n0 (by omega)), nI_clamp (show i < 2 ^ 31 by omega), nI_clamp (show j < 2 ^ 31 by omega), nI_clamp (show n2 < 2 ^ 31 by omega), chk_e (show ¬ 60 < i + n2 by omega), chk_e (show ¬ 60 < j + n2 by omega), bnd_e]
                      obtain ⟨G, g1, g2, g3⟩ := shiftA hd (show i + n2 ≤ 60 by omega) (x3 := nI e) (x4 := nI j) n2 0 256 τ (by omega) (by omega)
                      obtain ⟨F, f1, f2, f3⟩ := shiftB he (show j + n2 ≤ 60 by omega) n2 0 256 (sL τ 642 0 G) (by omega) (by omega)
                      have g1' : f_X12_shift_b113 256 τ (nI d) (nI i) (nI e) (nI j) (nI n2) (0 : Int32) = _ := g1
                      have f1' : f_X12_shift_b150 256 (sL τ 642 0 G) (nI e) (nI j) (nI n2) (0 : Int32) = _ := f1
                      rw [g1', f1']
                      refine ⟨nI n2, _, _, rfl, rfl, uSH α (sU (aSH α) e ((aSH α e).1, (aSH α e).2.1, fun x => if j ≤ x ∧ x < j + n2 then (aSH α d).2.2 (i + (x - j)) else (aSH α e).2.2 x)), okA_mono (okA_SH ho (okS_U ho e (Or.inr (Or.inr ⟨re, hbe, b1⟩)))), ?_, ?_⟩
                      · refine absC_SH hc (fun f o _ _ _ => rfl) rfl rfl (shC_mk (cSh hc) (fun y hy => ⟨rfl, rfl, rfl, if_neg (fun z => hy z.2)⟩) ⟨fun z => absurd (show (aSH α e).1 = 0 from z) te, fun z => absurd (show (aSH α e).1 ≤ 50 from z.2) (by omega), fun _ => ⟨hse.1, hse.2.1, hse.2.2.1, fun x hx => ?_⟩⟩)
                        refine (congrFun (if_pos ⟨rfl, rfl⟩) x).trans ?_
                        show va_cpy (σ.2.2.2.1 400 d) (σ.2.2.2.1 400 e) i j n2 x = if j ≤ x ∧ x < j + n2 then (aSH α d).2.2 (i + (x - j)) else (aSH α e).2.2 x
                        by_cases y : j ≤ x ∧ x < j + n2
                        · rw [pk_cpy_in y.1 y.2, if_pos y]
                          exact a3 _ (by omega)
                        · rw [pk_cpy_out (by omega), if_neg y]
                          exact b3 x hx
                      · have hsm := (mSh hm e he).2.2 re
                        have hsd2 := (mSh hm d hd).2.2 rd
                        refine absM_SH hm rfl (fun f o _ _ => rfl) (shM_mk ho (mSh hm) (fun y hy => ⟨rfl, fun _ => rfl⟩) (fun y x hy hx => ?_) ⟨fun z => absurd (show (aSH α e).1 = 0 from z) te, fun _ => (mSh hm e he).2.1 (by omega), fun _ => ⟨hsm.1, fun x hx => ?_⟩⟩)
                        · exact f3 (60 * y + x) (by omega)
                        · show F (60 * e + x) = if j ≤ x ∧ x < j + n2 then (aSH α d).2.2 (i + (x - j)) else (aSH α e).2.2 x
                          by_cases y : j ≤ x ∧ x < j + n2
                          · rw [if_pos y]
                            have e1 := f2 (x - j) (by omega) (by omega)
                            have e2 := g2 (x - j) (by omega) (by omega)
                            rw [show 60 * e + j + (x - j) = 60 * e + x by omega] at e1
                            refine e1.trans (e2.trans ?_)
                            rw [show 60 * d + i + (x - j) = 60 * d + (i + (x - j)) by omega]
                            exact hsd2.2 _ (by omega)
                          · rw [if_neg y]
                            exact (f3 (60 * e + x) (by omega)).trans (hsm.2 x hx)
                    · rw [tf_f s0, if_pos rfl]
                      by_cases s1 : s < 0
                      · rw [if_pos s1]; exact ⟨_, _, _, rfl, rfl, hR⟩
                      · rw [if_neg s1, if_neg (fun y => s0 ⟨Int32.not_lt.mp s1, Int32.not_lt.mpr y⟩)]; exact ⟨_, _, _, rfl, rfl, hR⟩
                  · rw [tf_f q0, if_pos rfl]
                    by_cases q1 : q < 0
                    · rw [if_pos q1]; exact ⟨_, _, _, rfl, rfl, hR⟩
                    · rw [if_neg q1, if_pos (Decidable.of_not_not (fun y => q0 ⟨Int32.not_lt.mp q1, y⟩)), ite_self]; exact ⟨_, _, _, rfl, rfl, hR⟩
              · rw [if_neg (nI_lit_ne (by omega) (by omega) (by omega)), if_neg (nI_lit_ne (by omega) (by omega) (by omega))]
                exact ⟨_, _, _, rfl, rfl, hR⟩
            · rw [tf_f re, if_pos rfl, if_neg (nI_lit_ne (by omega) (by omega) (by omega))]
              exact ⟨_, _, _, rfl, rfl, hR⟩
          · rw [tf_f rd, if_pos rfl, if_pos ((m3 td).mpr rd)]
            exact ⟨_, _, _, rfl, rfl, hR⟩
    · rw [h3, h4]
      exact ⟨_, _, _, rfl, rfl, hR⟩
  · rw [h1, h2]
    exact ⟨_, _, _, rfl, rfl, hR⟩
