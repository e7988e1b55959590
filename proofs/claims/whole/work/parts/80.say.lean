/-! 24 drawn -/
theorem total0_C {α : Ab} {k1 : Nat} {σ : St} (ho : OkA k1 α) (hc : AbsC α σ) {s : Nat} (hs : s < 12) : ∃ σ', f_X5_total σ (nI s) (0 : Int32) = some (nI (wsum α s 0 12), σ') ∧ FrC σ σ' ∧ AbsC α σ' := total_C ho hc hs (k := 0) (by omega)
theorem heardBy0_C {α : Ab} {k1 : Nat} {σ : St} (ho : OkA k1 α) (hc : AbsC α σ) {s : Nat} (hs : s < 12) (z : Int32) : ∃ σ', f_X5_heardBy σ z (nI s) (0 : Int32) = some (nI (hbF α s 0 z), σ') ∧ FrC σ σ' ∧ AbsC α σ' := heardBy_C ho hc hs (k := 0) (by omega) z
theorem drawnFor0_M {α : Ab} {k1 : Nat} {τ : St} (ho : OkA k1 α) (hm : AbsM α τ) {s : Nat} (hs : s < 12) : ∃ τ', f_X12_drawnFor τ (nI s) (0 : Int32) = some (nI (hbF α s 0 (nzN α s 0 (τ.1 622 0))), τ') ∧ FrM (sI τ 622 0 (nzN α s 0 (τ.1 622 0))) τ' ∧ AbsM α τ' := drawnFor_M ho hm hs (k := 0) (by omega)
theorem nI_le0 {n : Nat} (h : n < 2 ^ 31) : nI n ≤ 0 ↔ n = 0 := by
  rw [show (0 : Int32) = nI 0 from rfl, nI_leI h (by omega)]
  omega
theorem draw_in {k : Nat} {α : Ab} (ho : OkA k α) {n i w : Nat} (hn : n < (aN α).length) (hi : i < 30) (hw : w ≤ 6 * i) {x2 x4 q x3 : Int32} {r : Nat} {K1 : St → Int32 → Int32 → Int32 → Int32 → Int32 → Int32 → Int32 → Option (Int32 × St)} {K2 : St → Int32 → Int32 → Int32 → Int32 → Int32 → Int32 → Option (Int32 × St)} (hK : ∀ σ τ r' w', AbsC α σ → AbsM α τ → w' ≤ 6 * (i + 1) → Both α (fun _ => True) (K1 σ (nI n) x2 x4 (τ.1 622 0) (nI r') (nI w') (nI (i + 1))) (K2 τ q x3 (nI n) (nI r') (nI w') (nI (i + 1)))) : ∀ m j o f g σ τ, j + m = (nmL (aN α) n).length → o ≤ j → m < f → m < g → AbsC α σ → AbsM α τ → Both α (fun _ => True) (f_X9_draws_b25 K1 f σ (nI n) x2 x4 (τ.1 622 0) (nI r) (nI (w + o)) (nI i) (nI w) (nI j)) (f_X12_drawn_b77 K2 g τ q x3 (nI n) (nI r) (nI w) (nI i) (nI o) (nI j)) := by
  intro m
  induction m with
  | zero =>
    intro j o f g σ τ hj hoj hf hg hc hm
    obtain ⟨f, rfl⟩ : ∃ x, f = x + 1 := ⟨f - 1, by omega⟩
    obtain ⟨g, rfl⟩ : ∃ x, g = x + 1 := ⟨g - 1, by omega⟩
    obtain ⟨n1, n2, n3, n4⟩ := sz_C ho hc hn
    have n5 := (sz_M ho hm hn).2.2.2
    rw [f_X9_draws_b25, f_X12_drawn_b77, chk_in n1 (by omega), chk_in n1 (by omega), nI_clamp (by omega), n4, n5, if_pos (nI_le (by omega) (by omega)), if_pos (nI_le (by omega) (by omega))]
    unfold f_X12_drawn_b141
    simp only [bnd_e, nI_p1, nI_add]
    by_cases h0 : o = 0
    · subst h0
      rw [if_pos (show nI (w + 0) = nI w from rfl), if_pos (show nI 0 = 0 from rfl)]
      exact hK σ τ (r + 1) (w + 0) hc hm (by omega)
    · rw [if_neg (nI_lit_ne (show w + o ≠ w by omega) (by omega) (by omega)), if_neg (fun z => h0 ((nI_z (by omega)).mp z)), Int32.add_zero]
      exact hK σ τ r (w + o) hc hm (by omega)
  | succ m ih =>
    intro j o f g σ τ hj hoj hf hg hc hm
    obtain ⟨f, rfl⟩ : ∃ x, f = x + 1 := ⟨f - 1, by omega⟩
    obtain ⟨g, rfl⟩ : ∃ x, g = x + 1 := ⟨g - 1, by omega⟩
    obtain ⟨n1, n2, n3, n4⟩ := sz_C ho hc hn
    have n5 := (sz_M ho hm hn).2.2.2
    have hl := ltr_lt ho n j
    obtain ⟨σ1, a1, a2, a3⟩ := total0_C ho hc hl
    obtain ⟨σ2, b1, b2, b3⟩ := heardBy0_C ho a3 hl (nzN α (ltr (aN α) n j) 0 (τ.1 622 0))
    obtain ⟨τ1, d1, d2, d3⟩ := drawnFor0_M ho hm hl
    have hbd := wsum_le α (ltr (aN α) n j) 0 12
    have hz : τ1.1 622 0 = nzN α (ltr (aN α) n j) 0 (τ.1 622 0) := (d2.1 622 0 (by decide)).trans (sI_at _ _ _ _)
    have hbl := hb_lt α hl 0 (nzN α (ltr (aN α) n j) 0 (τ.1 622 0))
    have e1 : (if nI (wsum α (ltr (aN α) n j) 0 12) ≤ 0 then (f_X9_draws_b71 K1 (f_X9_draws_b25 K1 f) σ1 (nI n) x2 x4 (τ.1 622 0) (nI r) (nI (w + o)) (nI i) (nI w) (nI j) (nI (ltr (aN α) n j))) else (bnd1 (f_X11_nextDraw (τ.1 622 0)) (fun r17 => f_X9_draws_b71 K1 (f_X9_draws_b25 K1 f) σ1 (nI n) x2 x4 r17 (nI r) (nI (w + o)) (nI i) (nI w) (nI j) (nI (ltr (aN α) n j))))) = f_X9_draws_b71 K1 (f_X9_draws_b25 K1 f) σ1 (nI n) x2 x4 (nzN α (ltr (aN α) n j) 0 (τ.1 622 0)) (nI r) (nI (w + o)) (nI i) (nI w) (nI j) (nI (ltr (aN α) n j)) := by
      unfold nzN
      by_cases h0 : wsum α (ltr (aN α) n j) 0 12 = 0
      · rw [if_pos ((nI_le0 (by omega)).mpr h0), if_pos h0]
      · have en : f_X11_nextDraw (τ.1 622 0) = some (nxt (τ.1 622 0)) := rfl
        rw [if_neg (fun z => h0 ((nI_le0 (by omega)).mp z)), if_neg h0, en, bnd1_e]
    rw [f_X9_draws_b25, f_X12_drawn_b77, chk_in n1 (by omega), chk_in n1 (by omega), nI_clamp (by omega), n4, n5, if_neg (nI_ge (show j < (nmL (aN α) n).length by omega) (by omega)), if_neg (nI_ge (show j < (nmL (aN α) n).length by omega) (by omega)), e_X6_at ho hc hn (show j < (nmL (aN α) n).length by omega), bnd2_e, a1, bnd2_e, e1, e_X12_at1 ho hm hn (show j < (nmL (aN α) n).length by omega), bnd2_e, d1, bnd2_e, e_X12_at1 ho d3 hn (show j < (nmL (aN α) n).length by omega), bnd2_e]
    unfold f_X9_draws_b71
    rw [b1, bnd2_e]
    simp only [bnd_e, nI_p1, Int32.add_zero]
    by_cases e : nI (hbF α (ltr (aN α) n j) 0 (nzN α (ltr (aN α) n j) 0 (τ.1 622 0))) = nI (ltr (aN α) n j)
    · rw [if_pos e, if_pos e, ← hz]
      exact ih (j + 1) o f g σ2 τ1 (by omega) (by omega) (by omega) (by omega) b3 d3
    · rw [if_neg e, if_neg e, ← hz]
      exact ih (j + 1) (o + 1) f g σ2 τ1 (by omega) (by omega) (by omega) (by omega) b3 d3
theorem draw_out {k : Nat} {α : Ab} (ho : OkA k α) {n t : Nat} (hn : n < (aN α).length) (ht : t ≤ 30) {q x : Int32} (hq : q - q / 100 * 100 = nI t) : ∀ m i r w f g σ τ, i + m = t → w ≤ 6 * i → m < f → m < g → AbsC α σ → AbsM α τ → Both α (fun _ => True) (f_X9_draws_b12 f σ (nI n) (nI t) x (τ.1 622 0) (nI r) (nI w) (nI i)) (f_X12_drawn_b62 g τ q x (nI n) (nI r) (nI w) (nI i)) := by
  intro m
  induction m with
  | zero =>
    intro i r w f g σ τ hi hw hf hg hc hm
    obtain ⟨f, rfl⟩ : ∃ x, f = x + 1 := ⟨f - 1, by omega⟩
    obtain ⟨g, rfl⟩ : ∃ x, g = x + 1 := ⟨g - 1, by omega⟩
    rw [f_X9_draws_b12, f_X12_drawn_b62, hq, if_pos (nI_le (by omega) (by omega)), if_pos (nI_le (by omega) (by omega))]
    by_cases e : x = 0
    · rw [if_pos e, if_pos e]; exact both_ret hc hm trivial
    · rw [if_neg e, if_neg e]; exact both_ret hc hm trivial
  | succ m ih =>
    intro i r w f g σ τ hi hw hf hg hc hm
    obtain ⟨f, rfl⟩ : ∃ x, f = x + 1 := ⟨f - 1, by omega⟩
    obtain ⟨g, rfl⟩ : ∃ x, g = x + 1 := ⟨g - 1, by omega⟩
    obtain ⟨n1, n2, n3, n4⟩ := sz_C ho hc hn
    rw [f_X9_draws_b12, f_X12_drawn_b62, hq, if_neg (nI_ge (show i < t by omega) (by omega)), if_neg (nI_ge (show i < t by omega) (by omega))]
    exact draw_in ho hn (by omega) hw (fun σ τ r' w' q1 q2 q3 => ih (i + 1) r' w' f g σ τ (by omega) q3 (by omega) (by omega) q1 q2) (nmL (aN α) n).length 0 0 256 256 σ τ (by omega) (by omega) (by omega) (by omega) hc hm
theorem absM_622 {α : Ab} {τ : St} (h : AbsM α τ) (z : Int32) : AbsM α (sI τ 622 0 z) := ⟨h.1, h.2.1, lawM_cong rfl rfl h.2.2.1, h.2.2.2⟩
theorem within_1_30 (x : Int32) : f_X12_within x.toInt64 1 30 = some (tf (1 ≤ x ∧ x ≤ 30)) := w32 x 1 30
theorem lt1 (x : Int32) : ¬ x < 1 ↔ 1 ≤ x := Int32.not_lt
theorem st24 (k : Nat) : Step_24 (Rel k) (Rel (k + 1)) := by
  intro σ τ p q x hr
  obtain ⟨α, ho, hc, hm⟩ := hr
  have hR : Rel (k + 1) σ τ := ⟨α, okA_mono ho, hc, hm⟩
  unfold f_X11_drawn f_X12_drawn
  simp only [bnd_e]
  by_cases h0 : q < 0
  · rw [if_pos h0, if_pos h0]
    exact ⟨_, _, _, rfl, rfl, hR⟩
  · rw [if_neg h0, if_neg h0]
    rcases name_both ho hc hm (q / 100) with ⟨n, hn, hn2, e, h1, h2⟩ | ⟨h1, h2⟩
    · rw [h1, h2, bnd2_e, bnd2_e, if_neg one_n0, if_neg one_n0, within_1_30, show f_X12_within x.toInt64 0 1 = some (tf (0 ≤ x ∧ x ≤ 1)) from w32 x 0 1]
      by_cases h3 : 1 ≤ q - q / 100 * 100 ∧ q - q / 100 * 100 ≤ 30
      · rw [tf_t h3, bnd1_e, if_neg one_n0, if_neg ((lt1 _).mpr h3.1), if_neg (Int32.not_lt.mpr h3.2)]
        by_cases h4 : 0 ≤ x ∧ x ≤ 1
        · rw [tf_t h4, bnd1_e, if_neg one_n0, if_neg (Int32.not_lt.mpr h4.1), if_pos h4.2]
          obtain ⟨z, hz, eq⟩ := nI_of h0
          have e2 : q - q / 100 * 100 = nI (z % 100) := by rw [eq]; exact pk_rem (d := 100) hz (by omega) (by omega)
          have ht : z % 100 ≤ 30 := by
            have h5 := h3.2
            rw [e2] at h5
            exact (nI_leI (b := 30) (by omega) (by omega)).mp h5
          unfold f_X11_drawn_b69 f_X9_draws
          obtain ⟨r, σ2, τ2, q1, q2, q3, q4, _⟩ := draw_out ho hn ht e2 (x := x) (z % 100) 0 0 0 256 256 σ (sI τ 622 0 p) (by omega) (by omega) (by omega) (by omega) hc (absM_622 hm p)
          have q1' : f_X9_draws_b12 256 σ (nI n) (nI (z % 100)) x p (0 : Int32) (0 : Int32) (0 : Int32) = some (r, σ2) := q1
          have q2' : f_X12_drawn_b62 256 (sI τ 622 0 p) q x (nI n) (0 : Int32) (0 : Int32) (0 : Int32) = some (r, τ2) := q2
          rw [e2, e, q2']
          by_cases e5 : x = 1
          · rw [if_pos e5]
            rw [e5] at q1'
            rw [q1', bnd2_e]
            exact ⟨r, σ2, τ2, rfl, rfl, α, okA_mono ho, q3, q4⟩
          · have e6 : x = 0 := by
              obtain ⟨j, hj, ej⟩ := rng_of (n := 1) (by omega) h4
              rcases (show j = 0 ∨ j = 1 by omega) with y | y
              · rw [ej, y]; rfl
              · exact absurd (by rw [ej, y]; rfl) e5
            rw [if_neg e5]
            rw [e6] at q1'
            rw [q1', bnd2_e]
            exact ⟨r, σ2, τ2, rfl, rfl, α, okA_mono ho, q3, q4⟩
        · rw [tf_f h4, bnd1_e, if_pos rfl]
          by_cases h5 : x < 0
          · rw [if_pos h5]; exact ⟨_, _, _, rfl, rfl, hR⟩
          · rw [if_neg h5, if_neg (fun y => h4 ⟨Int32.not_lt.mp h5, y⟩)]; exact ⟨_, _, _, rfl, rfl, hR⟩
      · rw [tf_f h3, bnd1_e, if_pos rfl]
        by_cases h5 : q - q / 100 * 100 < 1
        · rw [if_pos h5]; exact ⟨_, _, _, rfl, rfl, hR⟩
        · rw [if_neg h5, if_pos (Int32.not_le.mp (fun y => h3 ⟨(lt1 _).mp h5, y⟩))]; exact ⟨_, _, _, rfl, rfl, hR⟩
    · rw [h1, h2]
      exact ⟨_, _, _, rfl, rfl, hR⟩
/-! 26 say -/
def dzD (d : DD) (z : Int32) : DD := (d.1, d.2.1, d.2.2.1, z, d.2.2.2.2)
theorem aD_uD (α : Ab) (d : DD) : aD (uD α d) = d := rfl
theorem uD_uD (α : Ab) (a b : DD) : uD (uD α a) b = uD α b := rfl
theorem dz1 (d : DD) (z : Int32) : (dzD d z).1 = d.1 := rfl
theorem dz2 (d : DD) (z : Int32) : (dzD d z).2.1 = d.2.1 := rfl
theorem dz4 (d : DD) (z : Int32) : (dzD d z).2.2.2.1 = z := rfl
theorem dz_dz (d : DD) (a b : Int32) : dzD (dzD d a) b = dzD d b := rfl
theorem wsum_uD (α : Ab) (d : DD) (s k : Nat) : ∀ n, wsum (uD α d) s k n = wsum α s k n
  | 0 => rfl
  | n + 1 => by
    rw [wsum, wsum, wsum_uD α d s k n]
    rfl
theorem hd_uD (α : Ab) (d : DD) (s k v : Nat) : ∀ m h, hdF (uD α d) s k v m h = hdF α s k v m h
  | 0, _ => rfl
  | m + 1, h => by rw [hdF, hdF, wsum_uD, hd_uD α d s k v m (h + 1)]
theorem hb_uD (α : Ab) (d : DD) (s k : Nat) (z : Int32) : hbF (uD α d) s k z = hbF α s k z := by
  unfold hbF
  rw [wsum_uD, hd_uD]
theorem nz_uD (α : Ab) (d : DD) (s k : Nat) (z : Int32) : nzN (uD α d) s k z = nzN α s k z := by
  unfold nzN
  rw [wsum_uD]
theorem absC_57 {α : Ab} {σ : St} (hc : AbsC α σ) (z : Int32) : AbsC (uD α (dzD (aD α) z)) (sI σ 57 0 z) := ⟨hc.1, hc.2.1, cache_cong rfl rfl rfl hc.2.2.1, law_cong rfl (fun _ => rfl) (fun _ => rfl) hc.2.2.2.1, hc.2.2.2.2.1, hc.2.2.2.2.2.1, hc.2.2.2.2.2.2.1, ⟨(cDe hc).1, (cDe hc).2.1, (cDe hc).2.2.1, (cDe hc).2.2.2.1, (cDe hc).2.2.2.2.1, fun q => ⟨rfl, ((cDe hc).2.2.2.2.2 q).2⟩⟩, hc.2.2.2.2.2.2.2.2⟩
theorem okD_dz {N : List (List Nat)} {k : Nat} {d : DD} (h : OkD N k d) (z : Int32) : OkD N k (dzD d z) := h
/-- how often it was said, 9 at most -/
def k9 (s : Nat) : Nat := if 9 < s then 9 else s
theorem k9_lt (s : Nat) : k9 s < 10 := by unfold k9; split <;> omega
theorem k9_e {s : Nat} (h : s < 2 ^ 31) : (if (9 : Int32) < nI s then (9 : Int32) else nI s) = nI (k9 s) := by
  unfold k9
  by_cases e : 9 < s
  · rw [if_pos (show (9 : Int32) < nI s from nI_lt (a := 9) e h), if_pos e]; rfl
  · rw [if_neg (show ¬ (9 : Int32) < nI s from fun z => e ((nI_ltI (a := 9) (by omega) h).mp z)), if_neg e]
theorem speak37 {k : Nat} {α : Ab} {σ : St} (hk : k ≤ 600) (ho : OkA k α) (hc : AbsC α σ) {n l i : Nat} (hz : (aD α).1 = nI n) (hn : n < 10) (hl : l < 12) (hi : i < 6) : ∃ σ', f_X1_speak_b37 σ 0 (nI l) (nI i) = some (nI (hbF α l (k9 ((aD α).2.1 i)) (nzN α l (k9 ((aD α).2.1 i)) (aD α).2.2.2.1)), σ') ∧ AbsC (uD α (dzD (aD α) (nzN α l (k9 ((aD α).2.1 i)) (aD α).2.2.2.1))) σ' := by
  have hd := (cDe hc).2.2.2.2.2 (by rw [hz]; exact nI_nm1 (by omega))
  have hs := (oDe ho).2.1 i
  have h9 := k9_lt ((aD α).2.1 i)
  unfold f_X1_speak_b37
  rw [chk_in hi (by omega), nI_clamp (by omega), (hd.2 i hi).1, k9_e (by omega), bnd_e]
  obtain ⟨σ1, a1, a2, a3⟩ := total_C ho hc hl h9
  have hbd := wsum_le α l (k9 ((aD α).2.1 i)) 12
  have e57 : σ1.1 57 0 = (aD α).2.2.2.1 := by rw [a2.1]; exact hd.1
  rw [a1, bnd2_e]
  unfold f_X1_speak_b71
  by_cases h0 : wsum α l (k9 ((aD α).2.1 i)) 12 = 0
  · have en : nzN α l (k9 ((aD α).2.1 i)) (aD α).2.2.2.1 = (aD α).2.2.2.1 := if_pos h0
    obtain ⟨σ2, b1, b2, b3⟩ := heardBy_C ho a3 hl h9 (aD α).2.2.2.1
    rw [if_pos ((nI_le0 (by omega)).mpr h0), e57, b1, bnd2_e, en]
    exact ⟨σ2, rfl, b3⟩
  · have en : nzN α l (k9 ((aD α).2.1 i)) (aD α).2.2.2.1 = nxt (aD α).2.2.2.1 := if_neg h0
    rw [if_neg (fun z => h0 ((nI_le0 (by omega)).mp z)), e57, en]
    have hc2 := absC_57 a3 (nxt (aD α).2.2.2.1)
    have ho2 : OkA k (uD α (dzD (aD α) (nxt (aD α).2.2.2.1))) := okA_D ho (okD_dz (oDe ho) _)
    obtain ⟨σ2, b1, b2, b3⟩ := heardBy_C ho2 hc2 hl h9 (nxt (aD α).2.2.2.1)
    have en2 : f_X11_nextDraw (aD α).2.2.2.1 = some (nxt (aD α).2.2.2.1) := rfl
    have e3 : (sI σ1 57 0 (nxt (aD α).2.2.2.1)).1 57 0 = nxt (aD α).2.2.2.1 := sI_at _ _ _ _
    rw [hb_uD] at b1
    rw [en2, bnd1_e, e3, b1, bnd2_e]
    exact ⟨σ2, rfl, b3⟩
/-- what is heard, and the draws' number behind it -/
def spk (α : Ab) (l i : Nat) (by_ : Bool) : Nat × Int32 :=
  if by_ = true then
    (if aCL α l ≤ zzN (nxt (aD α).2.2.2.1) % 12 then (hbF α l (k9 ((aD α).2.1 i)) (nzN α l (k9 ((aD α).2.1 i)) (nxt (aD α).2.2.2.1)), nzN α l (k9 ((aD α).2.1 i)) (nxt (aD α).2.2.2.1)) else (l, nxt (aD α).2.2.2.1))
  else (hbF α l (k9 ((aD α).2.1 i)) (nzN α l (k9 ((aD α).2.1 i)) (aD α).2.2.2.1), nzN α l (k9 ((aD α).2.1 i)) (aD α).2.2.2.1)
theorem spk_lt (α : Ab) {l : Nat} (hl : l < 12) (i : Nat) (b : Bool) : (spk α l i b).1 < 12 := by
  unfold spk
  split
  · split
    · exact hb_lt α hl _ _
    · exact hl
  · exact hb_lt α hl _ _
theorem zz12 (z : Int32) : nI (zzN z) - nI (zzN z) / (12 : Int32) * (12 : Int32) = nI (zzN z % 12) := by
  have := zz_lt z
  exact pk_rem (d := 12) (by omega) (by omega) (by omega)
theorem speak_C {k : Nat} {α : Ab} {σ : St} (hk : k ≤ 600) (ho : OkA k α) (hc : AbsC α σ) {n l i : Nat} (hz : (aD α).1 = nI n) (hn : n < 10) (hl : l < 12) (hi : i < 6) (b : Bool) : ∃ σ', f_X1_speak σ 0 (nI l) (nI i) (if b = true then 1 else 0) = some (nI (spk α l i b).1, σ') ∧ AbsC (uD α (dzD (aD α) (spk α l i b).2)) σ' := by
  unfold f_X1_speak spk
  cases b with
  | false =>
    rw [if_pos (show (if false = true then (1 : Int32) else 0) = 0 from rfl), if_neg (show ¬ (false = true) from fun h => (by cases h))]
    exact speak37 hk ho hc hz hn hl hi
  | true =>
    have hd := (cDe hc).2.2.2.2.2 (by rw [hz]; exact nI_nm1 (by omega))
    have hcl := (oLi ho).2.2.2.2.1 l
    rw [if_neg (show ¬ (if true = true then (1 : Int32) else 0) = 0 by decide), if_pos (show true = true from rfl), hd.1]
    have en2 : f_X11_nextDraw (aD α).2.2.2.1 = some (nxt (aD α).2.2.2.1) := rfl
    rw [en2, bnd1_e, chk_in hl (by omega), nI_clamp (by omega)]
    have e3 : (sI σ 57 0 (nxt (aD α).2.2.2.1)).1 57 0 = nxt (aD α).2.2.2.1 := sI_at _ _ _ _
    have hc2 := absC_57 hc (nxt (aD α).2.2.2.1)
    have ho2 : OkA k (uD α (dzD (aD α) (nxt (aD α).2.2.2.1))) := okA_D ho (okD_dz (oDe ho) _)
    have e4 : (sI σ 57 0 (nxt (aD α).2.2.2.1)).2.2.1 252 0 l = nI (aCL α l) := (hc.2.1.2.1 l hl).2
    rw [e3, zz_e, zz12, e4]
    by_cases h : aCL α l ≤ zzN (nxt (aD α).2.2.2.1) % 12
    · rw [if_pos (nI_le h (by omega)), if_pos h]
      have hz2 : (aD (uD α (dzD (aD α) (nxt (aD α).2.2.2.1)))).1 = nI n := (congrArg Prod.fst (aD_uD _ _)).trans ((dz1 _ _).trans hz)
      obtain ⟨σ2, b1, b2⟩ := speak37 hk ho2 hc2 hz2 hn hl hi
      rw [hb_uD, nz_uD, aD_uD, dz2, dz4] at b1
      rw [nz_uD, aD_uD, dz2, dz4, dz_dz, uD_uD] at b2
      exact ⟨σ2, b1, b2⟩
    · rw [if_neg (fun z => h ((nI_leI (by omega) (by omega)).mp z)), if_neg h]
      exact ⟨_, rfl, hc2⟩
def wdD (d : DD) (i h : Nat) (las : Int32) : DD := (d.1, fun j => if j = i then d.2.1 i + 1 else d.2.1 j, fun j => if j = i then h else d.2.2.1 j, d.2.2.2.1, d.2.2.2.2.1 + 1, d.2.2.2.2.2.1, d.2.2.2.2.2.2.1, d.2.2.2.2.2.2.2 + las)
theorem okD_wd {N : List (List Nat)} {k : Nat} {d : DD} {i h : Nat} {las : Int32} {n : Nat} (hd : OkD N k d) (hh : h < 12) (hn : n < N.length) (hz : d.1 = nI n) : OkD N (k + 1) (wdD d i h las) := by
  refine ⟨Or.inr ⟨n, hn, hz⟩, fun j => ?_, fun j => ?_⟩
  · show (if j = i then d.2.1 i + 1 else d.2.1 j) ≤ k + 1
    have h1 := hd.2.1 i
    have h2 := hd.2.1 j
    split <;> omega
  · show (if j = i then h else d.2.2.1 j) < 12
    split
    · exact hh
    · exact hd.2.2 j
theorem write_C {k : Nat} {α : Ab} {σ : St} (hc : AbsC α σ) {n i h : Nat} (hz : (aD α).1 = nI n) (hn : n < 10) (hi : i < 6) (las : Int32) : ∃ σ', f_X1_write σ 0 (nI i) (nI h) las = some σ' ∧ AbsC (uD α (wdD (aD α) i h las)) σ' := by
  have hd := (cDe hc).2.2.2.2.2 (by rw [hz]; exact nI_nm1 (by omega))
  unfold f_X1_write
  simp only [chk_in hi (show 6 ≤ 2000000000 by omega), bnd_e]
  simp only [nI_clamp (show i < 2 ^ 31 by omega), bnd_e]
  refine ⟨_, rfl, hc.1, hc.2.1, cache_cong rfl rfl rfl hc.2.2.1, law_cong rfl (fun _ => rfl) (fun _ => rfl) hc.2.2.2.1, hc.2.2.2.2.1, hc.2.2.2.2.2.1, hc.2.2.2.2.2.2.1, ⟨(cDe hc).1, congrArg (fun x => x + 1) (cDe hc).2.1, (cDe hc).2.2.1, (cDe hc).2.2.2.1, congrArg (fun x => x + las) (cDe hc).2.2.2.2.1, fun q => ⟨hd.1, fun j hj => ?_⟩⟩, hc.2.2.2.2.2.2.2.2⟩
  by_cases e : j = i
  · subst e
    refine ⟨?_, fun _ => ?_⟩
    · show upd (σ.2.2.1 50 0) j (σ.2.2.1 50 0 j + 1) j = nI (if j = j then (aD α).2.1 j + 1 else (aD α).2.1 j)
      rw [pk_us, if_pos rfl, (hd.2 j hj).1, nI_p1]
    · show upd (σ.2.2.1 51 0) j (nI h) j = nI (if j = j then h else (aD α).2.2.1 j)
      rw [pk_us, if_pos rfl]
  · refine ⟨?_, fun q2 => ?_⟩
    · show upd (σ.2.2.1 50 0) i (σ.2.2.1 50 0 i + 1) j = nI (if j = i then (aD α).2.1 i + 1 else (aD α).2.1 j)
      rw [pk_un e, if_neg e]
      exact (hd.2 j hj).1
    · show upd (σ.2.2.1 51 0) i (nI h) j = nI (if j = i then h else (aD α).2.2.1 j)
      rw [pk_un e, if_neg e]
      refine (hd.2 j hj).2 (fun q3 => q2 ?_)
      show (if j = i then (aD α).2.1 i + 1 else (aD α).2.1 j) = 0
      rw [if_neg e]
      exact q3
theorem ntd_wd {d : DD} {i h j : Nat} {las z : Int32} : ntd (wdD (dzD d z) i h las) j = if j = i then nI h else ntd d j := by
  unfold ntd
  by_cases e : j = i
  · rw [if_pos e, if_neg (show ¬ (wdD (dzD d z) i h las).2.1 j = 0 from fun q => by
      have q2 : (if j = i then d.2.1 i + 1 else d.2.1 j) = 0 := q
      rw [if_pos e] at q2
      omega)]
    show nI (if j = i then h else d.2.2.1 j) = nI h
    rw [if_pos e]
  · rw [if_neg e]
    show (if (if j = i then d.2.1 i + 1 else d.2.1 j) = 0 then (-2 : Int32) else nI (if j = i then h else d.2.2.1 j)) = _
    rw [if_neg e, if_neg e]
theorem fin_M {k : Nat} {α : Ab} {τ : St} (ho : OkA k α) (hm : AbsM α τ) {n i h l : Nat} (hz : (aD α).1 = nI n) (hn : n < 10) (hi : i < 6) (hl : l < 12) (b : Bool) : ∃ τ', f_X12_say_b134 τ (nI i) (if b = true then 1 else 0) (nI l) (nI h) = some (nI h, τ') ∧ AbsM (uD α (wdD (dzD (aD α) (τ.1 622 0)) i h (if b = true then nI (aLG α l) else 1))) τ' := by
  have hd := (mDe hm).2.2.2.2 (by rw [hz]; exact nI_nm1 (by omega))
  have e154 : (154 : Int32) + nI l = nI (154 + l) := nI_add 154 _
  have hlg : τ.2.2.1 600 0 (154 + l) = nI (aLG α l) := (hm.2.1.2.1 l hl).1
  unfold f_X12_say_b134 f_X12_say_b196
  simp only [chk_in hi (show 6 ≤ 2000000000 by omega), bnd_e]
  simp only [nI_clamp (show i < 2 ^ 31 by omega), bnd_e]
  have key : ∀ las : Int32, AbsM (uD α (wdD (dzD (aD α) (τ.1 622 0)) i h las)) (sI (sA (sA (sI (sI τ 624 0 (τ.1 622 0)) 625 0 ((sI τ 624 0 (τ.1 622 0)).1 625 0 + 1)) 626 0 (upd ((sI (sI τ 624 0 (τ.1 622 0)) 625 0 ((sI τ 624 0 (τ.1 622 0)).1 625 0 + 1)).2.2.1 626 0) i ((sI (sI τ 624 0 (τ.1 622 0)) 625 0 ((sI τ 624 0 (τ.1 622 0)).1 625 0 + 1)).2.2.1 626 0 i + 1))) 627 0 (upd ((sA (sI (sI τ 624 0 (τ.1 622 0)) 625 0 ((sI τ 624 0 (τ.1 622 0)).1 625 0 + 1)) 626 0 (upd ((sI (sI τ 624 0 (τ.1 622 0)) 625 0 ((sI τ 624 0 (τ.1 622 0)).1 625 0 + 1)).2.2.1 626 0) i ((sI (sI τ 624 0 (τ.1 622 0)) 625 0 ((sI τ 624 0 (τ.1 622 0)).1 625 0 + 1)).2.2.1 626 0 i + 1))).2.2.1 627 0) i (nI h))) 630 0 (τ.1 630 0 + las)) := by
    intro las
    refine ⟨hm.1, hm.2.1, lawM_cong rfl rfl hm.2.2.1, hm.2.2.2.1, hm.2.2.2.2.1, ⟨(mDe hm).1, (mDe hm).2.1, (mDe hm).2.2.1, congrArg (fun x => x + las) (mDe hm).2.2.2.1, fun q => ⟨congrArg (fun x => x + 1) hd.1, rfl, fun j hj => ⟨?_, ?_⟩⟩⟩, hm.2.2.2.2.2.2⟩
    · show upd (τ.2.2.1 626 0) i (τ.2.2.1 626 0 i + 1) j = nI (if j = i then (aD α).2.1 i + 1 else (aD α).2.1 j)
      by_cases e : j = i
      · subst e
        rw [pk_us, if_pos rfl, (hd.2.2 j hj).1, nI_p1]
      · rw [pk_un e, if_neg e]
        exact (hd.2.2 j hj).1
    · show upd (τ.2.2.1 627 0) i (nI h) j = ntd (wdD (dzD (aD α) (τ.1 622 0)) i h las) j
      rw [ntd_wd]
      by_cases e : j = i
      · subst e
        rw [pk_us, if_pos rfl]
      · rw [pk_un e, if_neg e]
        exact (hd.2.2 j hj).2
  cases b with
  | false =>
    rw [if_neg (show ¬ (if false = true then (1 : Int32) else 0) = 1 by decide)]
    exact ⟨_, rfl, key 1⟩
  | true =>
    rw [if_pos (show (if true = true then (1 : Int32) else 0) = 1 by decide), e154, chk_in (show 154 + l < 179 by omega) (by omega), nI_clamp (by omega)]
    refine ⟨_, rfl, ?_⟩
    rw [← hlg]
    exact key _
theorem drawn_M {k : Nat} {α : Ab} {τ : St} (hk : k ≤ 600) (ho : OkA k α) (hm : AbsM α τ) {n i l : Nat} (hz : (aD α).1 = nI n) (hn : n < 10) (hi : i < 6) (hl : l < 12) (b : Bool) : ∃ τ', f_X12_say_b95 τ (nI i) (if b = true then 1 else 0) (nI l) = some (nI (hbF α l (k9 ((aD α).2.1 i)) (nzN α l (k9 ((aD α).2.1 i)) (τ.1 622 0))), τ') ∧ AbsM (uD α (wdD (dzD (aD α) (nzN α l (k9 ((aD α).2.1 i)) (τ.1 622 0))) i (hbF α l (k9 ((aD α).2.1 i)) (nzN α l (k9 ((aD α).2.1 i)) (τ.1 622 0))) (if b = true then nI (aLG α l) else 1))) τ' := by
  have hd := (mDe hm).2.2.2.2 (by rw [hz]; exact nI_nm1 (by omega))
  have hs := (oDe ho).2.1 i
  have h9 := k9_lt ((aD α).2.1 i)
  obtain ⟨τ1, d1, d2, d3⟩ := drawnFor_M ho hm hl h9
  have hz1 : τ1.1 622 0 = nzN α l (k9 ((aD α).2.1 i)) (τ.1 622 0) := (d2.1 622 0 (by decide)).trans (sI_at _ _ _ _)
  have e9 : (if nI ((aD α).2.1 i) ≤ (9 : Int32) then f_X12_say_b131 τ (nI i) (if b = true then 1 else 0) (nI l) (nI ((aD α).2.1 i)) (nI l) else f_X12_say_b131 τ (nI i) (if b = true then 1 else 0) (nI l) (9 : Int32) (nI l)) = f_X12_say_b131 τ (nI i) (if b = true then 1 else 0) (nI l) (nI (k9 ((aD α).2.1 i))) (nI l) := by
    unfold k9
    by_cases e : 9 < (aD α).2.1 i
    · rw [if_neg (show ¬ nI ((aD α).2.1 i) ≤ (9 : Int32) from nI_ge (a := 9) e (by omega)), if_pos e]; rfl
    · rw [if_pos (show nI ((aD α).2.1 i) ≤ (9 : Int32) from nI_le (b := 9) (by omega) (by omega)), if_neg e]
  unfold f_X12_say_b95 f_X12_say_b96
  rw [if_pos rfl, chk_in hi (by omega), chk_in hi (by omega), nI_clamp (by omega), (hd.2.2 i hi).1, e9]
  unfold f_X12_say_b131
  rw [d1, bnd2_e]
  obtain ⟨τ2, f1, f2⟩ := fin_M ho d3 (h := hbF α l (k9 ((aD α).2.1 i)) (nzN α l (k9 ((aD α).2.1 i)) (τ.1 622 0))) hz hn hi hl b
  rw [hz1] at f2
  exact ⟨τ2, f1, f2⟩
/-- the model says a LETTER -/
theorem say_M {k : Nat} {α : Ab} {τ : St} (hk : k ≤ 600) (ho : OkA k α) (hm : AbsM α τ) {n i l : Nat} (hz : (aD α).1 = nI n) (hn : n < 10) (hi : i < 6) (hl : l < 12) (b : Bool) : ∃ τ', (if (if b = true then (1 : Int32) else 0) = (1 : Int32) then (bnd2 (f_X12_draws (sI τ 622 0 (τ.1 624 0)) (12 : Int32)) (fun r15 σ16 => chk ((166 : Int32) + nI l < 0 ∨ 179 ≤ ((166 : Int32) + nI l).toNatClampNeg) (if σ16.2.2.1 600 0 ((166 : Int32) + nI l).toNatClampNeg ≤ r15 then (f_X12_say_b95 σ16 (nI i) (if b = true then 1 else 0) (nI l)) else (f_X12_say_b96 σ16 (nI i) (if b = true then 1 else 0) (nI l) (1 : Int32))))) else (f_X12_say_b95 (sI τ 622 0 (τ.1 624 0)) (nI i) (if b = true then 1 else 0) (nI l))) = some (nI (spk α l i b).1, τ') ∧ AbsM (uD α (wdD (dzD (aD α) (spk α l i b).2) i (spk α l i b).1 (if b = true then nI (aLG α l) else 1))) τ' := by
  have hd := (mDe hm).2.2.2.2 (by rw [hz]; exact nI_nm1 (by omega))
  unfold spk
  cases b with
  | false =>
    rw [if_neg (show ¬ (if false = true then (1 : Int32) else 0) = 1 by decide), if_neg (show ¬ (false = true) from fun h => (by cases h))]
    have h := drawn_M hk ho (absM_622 hm (τ.1 624 0)) hz hn hi hl false
    have e : (sI τ 622 0 (τ.1 624 0)).1 622 0 = (aD α).2.2.2.1 := (sI_at _ _ _ _).trans hd.2.1
    rw [e] at h
    exact h
  | true =>
    have hcl := (oLi ho).2.2.2.2.1 l
    have e166 : (166 : Int32) + nI l = nI (166 + l) := nI_add 166 _
    rw [if_pos (show (if true = true then (1 : Int32) else 0) = 1 by decide), if_pos (show true = true from rfl)]
    unfold f_X12_draws
    have e : (sI τ 622 0 (τ.1 624 0)).1 622 0 = (aD α).2.2.2.1 := (sI_at _ _ _ _).trans hd.2.1
    rw [nxt_e, bnd_e, chk_e (show ¬ (12 : Int32) = 0 by decide), bnd2_e]
    have e2 : (sI (sI τ 622 0 (τ.1 624 0)) 622 0 (nxt (aD α).2.2.2.1)).1 622 0 = nxt (aD α).2.2.2.1 := sI_at _ _ _ _
    have e3 : (sI (sI τ 622 0 (τ.1 624 0)) 622 0 (nxt (aD α).2.2.2.1)).2.2.1 600 0 (166 + l) = nI (aCL α l) := (hm.2.1.2.1 l hl).2
    have hm2 := absM_622 (absM_622 hm (τ.1 624 0)) (nxt (aD α).2.2.2.1)
    rw [e, e2, zz_e, zz12, e166, chk_in (show 166 + l < 179 by omega) (by omega), nI_clamp (by omega), e3]
    by_cases h : aCL α l ≤ zzN (nxt (aD α).2.2.2.1) % 12
    · rw [if_pos (nI_le h (by omega)), if_pos h]
      have h2 := drawn_M hk ho hm2 hz hn hi hl true
      rw [e2] at h2
      exact h2
    · rw [if_neg (fun z => h ((nI_leI (by omega) (by omega)).mp z)), if_neg h]
      unfold f_X12_say_b96
      rw [if_neg one_n0]
      have h2 := fin_M ho hm2 (h := l) hz hn hi hl true
      rw [e2] at h2
      exact h2
theorem okA_Dk {k : Nat} {α : Ab} {d : DD} (h : OkA k α) (hd : OkD (aN α) (k + 1) d) : OkA (k + 1) (uD α d) := ⟨h.1, h.2.1, h.2.2.1, h.2.2.2.1, hd, fun d' e => okD_mono (h.2.2.2.2.2.1 d' e), h.2.2.2.2.2.2⟩
theorem st26 (k : Nat) (hk : k < 512) : Step_26 (Rel k) (Rel (k + 1)) := by
  intro σ τ p q hr
  obtain ⟨α, ho, hc, hm⟩ := hr
  have hR : Rel (k + 1) σ τ := ⟨α, okA_mono ho, hc, hm⟩
  have hl := (oNm ho).1
  have e65 : p < 6 ↔ p ≤ 5 := (le_pred (n := 6) (by omega)).symm
  unfold f_X11_say f_X12_say
  rw [show f_X12_within p.toInt64 0 5 = some (tf (0 ≤ p ∧ p ≤ 5)) from w32 p 0 5, show f_X12_within q.toInt64 0 1 = some (tf (0 ≤ q ∧ q ≤ 1)) from w32 q 0 1]
  have bad : ∀ S : St, f_X11_say_b9 S p q = some (-1, S) := fun S => rfl
  by_cases hq : 0 ≤ q ∧ q ≤ 1
  · rw [tf_t hq, if_neg (Int32.not_lt.mpr hq.1), if_pos hq.2]
    unfold f_X11_refusedPlace
    by_cases hp : 0 ≤ p ∧ p ≤ 5
    · rw [tf_t hp, bnd1_e, if_neg one_n0, bnd1_e, if_neg one_n0, if_neg (Int32.not_lt.mpr hp.1), if_pos (e65.mpr hp.2), (cDe hc).1, (mDe hm).1]
      rcases (oDe ho).1 with ⟨z, z2⟩ | ⟨n, hn, z⟩
      · rw [z, if_neg neg1_nle, if_neg neg1_nle, bnd2_e]
        exact ⟨_, _, _, rfl, rfl, hR⟩
      · obtain ⟨n1, n2, n3, n4⟩ := sz_C ho hc hn
        have n5 := (sz_M ho hm hn).2.2.2
        rw [z, if_pos (nI_0le (by omega)), if_pos (nI_0le (by omega)), chk_in n1 (by omega), chk_in n1 (by omega), nI_clamp (by omega), n4, n5]
        obtain ⟨i, hi, ei⟩ := rng_of (n := 5) (by omega) hp
        rw [ei]
        by_cases h3 : i < (nmL (aN α) n).length
        · rw [if_neg (nI_ge h3 (by omega)), if_pos (nI_lt h3 (by omega)), bnd2_e]
          unfold f_X11_say_b18
          have hlt := ltr_lt ho n i
          rw [if_pos rfl, (cDe hc).1, z, e_X6_at ho hc hn h3, bnd2_e, e_X12_at1 ho hm hn h3, bnd2_e]
          have hqb : ∃ b : Bool, q = if b = true then 1 else 0 := by
            obtain ⟨j, hj, ej⟩ := rng_of (n := 1) (by omega) hq
            rcases (show j = 0 ∨ j = 1 by omega) with y | y
            · exact ⟨false, by rw [ej, y]; rfl⟩
            · exact ⟨true, by rw [ej, y]; rfl⟩
          obtain ⟨b, eb⟩ := hqb
          obtain ⟨σ1, s1, s2⟩ := speak_C (by omega) ho hc z n1 hlt (show i < 6 by omega) b
          obtain ⟨σ2, w1, w2⟩ := write_C (k := k) s2 (h := (spk α (ltr (aN α) n i) i b).1) z n1 (show i < 6 by omega) (if b = true then nI (aLG α (ltr (aN α) n i)) else 1)
          obtain ⟨τ2, m1, m2⟩ := say_M (by omega) ho hm z n1 (show i < 6 by omega) hlt b
          rw [eb, m1]
          unfold f_X11_say_b63 f_X11_say_b94
          have el : σ1.2.2.1 251 0 (ltr (aN α) n i) = nI (aLG α (ltr (aN α) n i)) := (s2.2.1.2.1 _ hlt).1
          have hrel : Rel (k + 1) σ2 τ2 := ⟨uD α (wdD (dzD (aD α) (spk α (ltr (aN α) n i) i b).2) i (spk α (ltr (aN α) n i) i b).1 (if b = true then nI (aLG α (ltr (aN α) n i)) else 1)), okA_Dk ho (okD_wd (okD_dz (oDe ho) _) (spk_lt α hlt i b) hn z), w2, m2⟩
          cases b with
          | false =>
            rw [if_neg (show ¬ (if false = true then (1 : Int32) else 0) = 1 by decide)]
            have s1' : f_X1_speak σ 0 (nI (ltr (aN α) n i)) (nI i) (0 : Int32) = _ := s1
            have w1' : f_X1_write σ1 0 (nI i) (nI (spk α (ltr (aN α) n i) i false).1) (1 : Int32) = _ := w1
            rw [s1', bnd2_e, if_neg (show ¬ (if false = true then (1 : Int32) else 0) = 1 by decide), w1', bnd1_e]
            exact ⟨_, _, _, rfl, rfl, hrel⟩
          | true =>
            rw [if_pos (show (if true = true then (1 : Int32) else 0) = 1 by decide)]
            have s1' : f_X1_speak σ 0 (nI (ltr (aN α) n i)) (nI i) (1 : Int32) = _ := s1
            have w1' : f_X1_write σ1 0 (nI i) (nI (spk α (ltr (aN α) n i) i true).1) (nI (aLG α (ltr (aN α) n i))) = _ := w1
            rw [s1', bnd2_e, if_pos (show (if true = true then (1 : Int32) else 0) = 1 by decide), chk_in hlt (by omega), nI_clamp (by omega), el, w1', bnd1_e]
            exact ⟨_, _, _, rfl, rfl, hrel⟩
        · rw [if_pos (nI_le (Nat.not_lt.mp h3) (by omega)), if_neg (fun y => h3 ((nI_ltI (by omega) (by omega)).mp y)), bnd2_e]
          exact ⟨_, _, _, rfl, rfl, hR⟩
    · rw [tf_f hp, bnd1_e, if_pos rfl]
      by_cases h1 : p < 0
      · rw [if_pos h1, bnd2_e]
        exact ⟨_, _, _, rfl, rfl, hR⟩
      · rw [if_neg h1, if_neg (fun y => hp ⟨Int32.not_lt.mp h1, e65.mp y⟩), bnd2_e]
        exact ⟨_, _, _, rfl, rfl, hR⟩
  · rw [tf_f hq]
    have hC : (if q < 0 then f_X11_say_b9 σ p q else if q ≤ 1 then bnd2 (f_X11_refusedPlace σ p) (fun r4 σ5 => f_X11_say_b18 σ5 p q r4) else f_X11_say_b9 σ p q) = some (-1, σ) := by
      by_cases h1 : q < 0
      · rw [if_pos h1]; exact bad σ
      · rw [if_neg h1, if_neg (fun y => hq ⟨Int32.not_lt.mp h1, y⟩)]; exact bad σ
    rw [hC, bnd1_e, bnd1_e, if_pos (show (0 : Int32) = 0 from rfl), ite_self]
    exact ⟨_, _, _, rfl, rfl, hR⟩
