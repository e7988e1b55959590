/-! the model asks WEIGHTS -/
theorem ixM (a b : Nat) : (10 : Int32) + ((12 : Int32) * nI a + nI b) = nI (10 + (12 * a + b)) := by
  show nI 10 + (nI 12 * nI a + nI b) = _
  rw [pk_mul, nI_add, nI_add]
theorem alikeAt_e {s h : Nat} (hs : s < 12) (hh : h < 12) : f_X12_alikeAt (nI s) (nI h) = some (nI (10 + (if s < h then 12 * s + h else 12 * h + s))) := by
  unfold f_X12_alikeAt
  rw [ixM, ixM]
  by_cases e : s < h
  · rw [if_neg (nI_ge e (by omega)), if_pos e]
  · rw [if_pos (nI_le (Nat.not_lt.mp e) (by omega)), if_neg e]
theorem al_M {α : Ab} {k1 : Nat} {τ : St} (ho : OkA k1 α) (hm : AbsM α τ) {s h : Nat} (hs : s < 12) (hh : h < 12) (e : s ≠ h) : τ.2.2.1 600 0 (10 + (if s < h then 12 * s + h else 12 * h + s)) = nI (aAL α s h) := by
  by_cases e1 : s < h
  · rw [if_pos e1]; exact hm.2.1.1 s h e1 hh
  · rw [if_neg e1, (oLi ho).2.1 s h]; exact hm.2.1.1 h s (by omega) hs
theorem kc0 : (0 : Int32).toNatClampNeg = 0 := by decide
theorem kc1 : (1 : Int32).toNatClampNeg = 1 := by decide
theorem kc2 : (2 : Int32).toNatClampNeg = 2 := by decide
theorem kc3 : (3 : Int32).toNatClampNeg = 3 := by decide
theorem kc4 : (4 : Int32).toNatClampNeg = 4 := by decide
theorem kc5 : (5 : Int32).toNatClampNeg = 5 := by decide
theorem kc178 : (178 : Int32).toNatClampNeg = 178 := by decide
theorem lawM_none {α : Ab} {τ : St} (h : AbsM α τ) (e : aLW α = none) : τ.1 612 0 = -1 := by
  have h1 := h.2.2.1
  rw [e] at h1
  exact h1
theorem lawM_some {α : Ab} {τ : St} {f : LF} (h : AbsM α τ) (e : aLW α = some f) : ¬ τ.1 612 0 < 0 ∧ TextSem (τ.2.2.1 611 0) (τ.1 612 0) f := by
  have h1 := h.2.2.1
  rw [e] at h1
  exact h1
theorem law_M {α : Ab} {τ t : St} {f : LF} (hm : AbsM α τ) (e : aLW α = some f) (hF : FrM τ t) {a b c d g h : Int32} (h0 : t.2.2.1 618 0 0 = a) (h1 : t.2.2.1 618 0 1 = b) (h2 : t.2.2.1 618 0 2 = c) (h3 : t.2.2.1 618 0 3 = d) (h4 : t.2.2.1 618 0 4 = g) (h5 : t.2.2.1 618 0 5 = h) : ∃ τ', f_X12_workOut t 0 (t.1 612 0) = some (f a b c d g h, τ') ∧ FrM t τ' ∧ τ'.2.2.1 = t.2.2.1 := by
  obtain ⟨_, hT⟩ := lawM_some hm e
  obtain ⟨v, e1, e2, e3, e4⟩ := hT t (hF.2.2.1 611 0 (by decide) (by decide))
  rw [h0, h1, h2, h3, h4, h5] at e2
  refine ⟨v.2, ?_, ⟨e3, by rw [e4], fun f o _ _ => by rw [e4], by rw [e4]⟩, by rw [e4]⟩
  rw [hF.1 612 0 (by decide), e1, ← e2]
theorem asks_loop {α : Ab} {k1 : Nat} (ho : OkA k1 α) {s k : Nat} (hs : s < 12) (hk : k < 10) : ∀ m h f τ, h + m = 12 → m < f → AbsM α τ → (∀ x, x < h → τ.2.2.1 619 0 x = nI (wt α s x k)) → ∃ τ', f_X12_asksWeights_b5 f τ (nI s) (nI k) (nI (wsum α s k h)) (nI h) = some (nI (wsum α s k 12), τ') ∧ FrM τ τ' ∧ ∀ x, x < 12 → τ'.2.2.1 619 0 x = nI (wt α s x k) := by
  intro m
  induction m with
  | zero =>
    intro h f τ hh hf hm hw
    obtain ⟨g, rfl⟩ : ∃ g, f = g + 1 := ⟨f - 1, by omega⟩
    have h12 : h = 12 := by omega
    subst h12
    rw [f_X12_asksWeights_b5, if_pos (show (12 : Int32) ≤ nI 12 from Int32.le_refl _)]
    exact ⟨τ, rfl, FrM.rf τ, hw⟩
  | succ m ih =>
    intro h f τ hh hf hm hw
    obtain ⟨g, rfl⟩ : ∃ g, f = g + 1 := ⟨f - 1, by omega⟩
    have hh12 : h < 12 := by omega
    have step : ∀ t, FrM τ t → (∀ x, x < h → t.2.2.1 619 0 x = nI (wt α s x k)) → ∃ τ', f_X12_asksWeights_b145 (f_X12_asksWeights_b5 g) t (nI s) (nI k) (nI (wsum α s k h)) (nI h) (wv α s h k) = some (nI (wsum α s k 12), τ') ∧ FrM τ τ' ∧ ∀ x, x < 12 → τ'.2.2.1 619 0 x = nI (wt α s x k) := by
      intro t hft hwt
      unfold f_X12_asksWeights_b145
      rw [wt_clamp α s h k (fun v => f_X12_asksWeights_b174 (f_X12_asksWeights_b5 g) t (nI s) (nI k) (nI (wsum α s k h)) (nI h) v (nI h))]
      unfold f_X12_asksWeights_b174
      simp only [chk_in hh12 (show 12 ≤ 2000000000 by omega), bnd_e, nI_p1]
      simp only [nI_clamp (show h < 2 ^ 31 by omega), bnd_e, nI_p1]
      have hu : (sA t 619 0 (upd (t.2.2.1 619 0) h (nI (wt α s h k)))).2.2.1 619 0 h = nI (wt α s h k) := pk_us
      rw [hu, nI_add]
      have hF : FrM t (sA t 619 0 (upd (t.2.2.1 619 0) h (nI (wt α s h k)))) := ⟨fun _ _ _ => rfl, rfl, fun f o _ h3 => if_neg (fun z => h3 z.1), rfl⟩
      obtain ⟨τ', e1, e2, e3⟩ := ih (h + 1) g _ (by omega) (by omega) (absM_fr (hft.tr hF) hm) (by
        intro x hx
        show upd (t.2.2.1 619 0) h (nI (wt α s h k)) x = _
        by_cases e : x = h
        · subst e; exact pk_us
        · rw [pk_un e]; exact hwt x (by omega))
      rw [wsum] at e1
      exact ⟨τ', e1, (hft.tr hF).tr e2, e3⟩
    have mid : ∃ τ', f_X12_asksWeights_b34 (f_X12_asksWeights_b5 g) τ (nI s) (nI k) (nI (wsum α s k h)) (nI h) (nI (aAL α s h)) = some (nI (wsum α s k 12), τ') ∧ FrM τ τ' ∧ ∀ x, x < 12 → τ'.2.2.1 619 0 x = nI (wt α s x k) := by
      unfold f_X12_asksWeights_b34
      have e0 : (if nI s = nI h then (f_X12_asksWeights_b48 (f_X12_asksWeights_b5 g) τ (nI s) (nI k) (nI (wsum α s k h)) (nI h) (nI (aAL α s h)) (9 : Int32)) else (f_X12_asksWeights_b48 (f_X12_asksWeights_b5 g) τ (nI s) (nI k) (nI (wsum α s k h)) (nI h) (nI (aAL α s h)) (0 : Int32))) = f_X12_asksWeights_b48 (f_X12_asksWeights_b5 g) τ (nI s) (nI k) (nI (wsum α s k h)) (nI h) (nI (aAL α s h)) (nI (if s = h then 9 else 0)) := by
        by_cases e : s = h
        · rw [if_pos (congrArg nI e), if_pos e]; rfl
        · rw [if_neg (fun z => e ((nI_eq (by omega) (by omega)).mp z)), if_neg e]; rfl
      rw [e0]
      unfold f_X12_asksWeights_b48
      rw [kc178, hm.2.1.2.2, bnd_e]
      cases hL : aLW α with
      | none =>
        rw [if_pos (show τ.1 612 0 < 0 by rw [lawM_none hm hL]; decide), ← wv_none hL]
        exact step τ (FrM.rf τ) hw
      | some F =>
        rw [if_neg (lawM_some hm hL).1]
        have e1 : ∀ t : St, (if nI s = nI h then (f_X12_asksWeights_b111 (f_X12_asksWeights_b5 g) t (nI s) (nI k) (nI (wsum α s k h)) (nI h) (1 : Int32) (2 : Int32)) else (f_X12_asksWeights_b111 (f_X12_asksWeights_b5 g) t (nI s) (nI k) (nI (wsum α s k h)) (nI h) (0 : Int32) (2 : Int32))) = f_X12_asksWeights_b111 (f_X12_asksWeights_b5 g) t (nI s) (nI k) (nI (wsum α s k h)) (nI h) (nI (if s = h then 1 else 0)) (2 : Int32) := by
          intro t
          by_cases e : s = h
          · rw [if_pos (congrArg nI e), if_pos e]; rfl
          · rw [if_neg (fun z => e ((nI_eq (by omega) (by omega)).mp z)), if_neg e]; rfl
        simp only [bnd_e, e1]
        unfold f_X12_asksWeights_b111
        rw [show chk ((2 : Int32) < 0 ∨ 6 ≤ (2 : Int32).toNatClampNeg) = (fun (x : Option (Int32 × St)) => x) from funext fun x => chk_e (by decide)]
        simp only [bnd_e, kc0, kc1, kc2, kc3, kc4, kc5]
        generalize ht : (sA _ 618 0 (upd _ 5 (nI k)) : St) = t
        have hF : FrM τ t := by
          rw [← ht]
          exact ⟨fun _ _ _ => rfl, rfl, fun f o h1 _ => (if_neg (fun z => h1 z.1)).trans ((if_neg (fun z => h1 z.1)).trans ((if_neg (fun z => h1 z.1)).trans ((if_neg (fun z => h1 z.1)).trans ((if_neg (fun z => h1 z.1)).trans (if_neg (fun z => h1 z.1)))))), rfl⟩
        have h619 : t.2.2.1 619 0 = τ.2.2.1 619 0 := by rw [← ht]; rfl
        obtain ⟨τ', q1, q2, q3⟩ := law_M (t := t) hm hL hF (a := nI (aAL α s h)) (b := nI (aNO α)) (c := nI (if s = h then 1 else 0)) (d := nI s) (g := nI h) (h := nI k) (by rw [← ht]; rfl) (by rw [← ht]; exact hm.2.1.2.2) (by rw [← ht]; rfl) (by rw [← ht]; rfl) (by rw [← ht]; rfl) (by rw [← ht]; rfl)
        rw [q1, bnd2_e, ← wv_some hL]
        exact step τ' (hF.tr q2) (fun x hx => by rw [q3, h619]; exact hw x hx)
    rw [f_X12_asksWeights_b5, if_neg (show ¬ (12 : Int32) ≤ nI h from nI_ge (b := 12) hh12 (by omega))]
    by_cases e : s = h
    · rw [if_pos (congrArg nI e)]
      have e9 : aAL α s h = 9 := by rw [e]; exact (oLi ho).2.2.1 h
      rw [e9] at mid
      exact mid
    · rw [if_neg (fun z => e ((nI_eq (by omega) (by omega)).mp z)), alikeAt_e hs hh12, bnd1_e]
      have hb : 10 + (if s < h then 12 * s + h else 12 * h + s) < 179 := by split <;> omega
      rw [chk_in hb (by omega), nI_clamp (by omega), al_M ho hm hs hh12 e]
      exact mid
theorem asks_M {α : Ab} {k1 : Nat} {τ : St} (ho : OkA k1 α) (hm : AbsM α τ) {s k : Nat} (hs : s < 12) (hk : k < 10) : ∃ τ', f_X12_asksWeights τ (nI s) (nI k) = some (nI (wsum α s k 12), τ') ∧ FrM τ τ' ∧ AbsM α τ' ∧ ∀ x, x < 12 → τ'.2.2.1 619 0 x = nI (wt α s x k) := by
  obtain ⟨τ', e1, e2, e3⟩ := asks_loop ho hs hk 12 0 256 τ (by omega) (by omega) hm (fun x hx => absurd hx (Nat.not_lt_zero x))
  exact ⟨τ', e1, e2, absM_fr e2 hm, e3⟩
theorem letterM {h : Nat} (hh : h < 12) : f_X12_isLetter (lN h) = some 1 := by
  rw [e_X12_isLetter, tf_t]
  exact ⟨(pk_lLE (a := 0) (by omega) (by omega)).mpr (by omega), (pk_lLE (b := 11) (by omega) (by omega)).mpr (by omega)⟩
theorem part_M {α : Ab} {k1 : Nat} {τ : St} (ho : OkA k1 α) (hm : AbsM α τ) {s h k : Nat} (hs : s < 12) (hh : h < 12) (hk : k < 10) : ∃ τ', f_X12_partOfHeard τ (nI s) (lN h) (nI k) = some (nI (ptN α s h k), τ') ∧ FrM τ τ' ∧ AbsM α τ' := by
  obtain ⟨τ', e1, e2, e3, e4⟩ := asks_M ho hm hs hk
  refine ⟨τ', ?_, e2, e3⟩
  unfold f_X12_partOfHeard
  have hb := wsum_le α s k 12
  have hb2 := wt_le α s h k
  rw [letterM hh, bnd1_e, if_neg one_n0, e1, bnd2_e, lN_i, chk_in hh (by omega), nI_clamp (by omega), e4 h hh]
  unfold ptN
  by_cases h0 : wsum α s k 12 = 0
  · rw [if_pos ((nI_z (by omega)).mpr h0), if_pos h0, nI_l (by omega)]
    by_cases e : s = h
    · rw [if_pos (congrArg lN e), if_pos e]; rfl
    · rw [if_neg (fun z => e ((pk_lEQ (by omega) (by omega)).mp z)), if_neg e]; rfl
  · have hz : ¬ nI (wsum α s k 12) = 0 := fun z => h0 ((nI_z (by omega)).mp z)
    rw [if_neg hz, if_neg h0, chk_e hz, show (100 : Int32) * nI (wt α s h k) = nI (100 * wt α s h k) from pk_mul 100 _, pk_div (by omega) (by omega) (by omega)]
theorem part_M0 {τ : St} (x : Int32) (y : Int64) (z : Int32) (h : ¬ (0 ≤ y ∧ y ≤ 11)) : f_X12_partOfHeard τ x y z = some (0, τ) := by
  unfold f_X12_partOfHeard
  rw [e_X12_isLetter, tf_f h, bnd1_e, if_pos rfl]
/-! what lies at a place of a ROW, taken for a LETTER -/
def lvN (v : Int64) : Int32 := if 0 ≤ v ∧ v ≤ 11 then v.toInt32 else -1
def ptv (α : Ab) (s : Nat) (v : Int64) (k : Nat) : Nat := if 0 ≤ v ∧ v ≤ 11 then ptN α s v.toInt.toNat k else 0
theorem lv_of {v : Int64} (h : 0 ≤ v ∧ v ≤ 11) : ∃ j, j < 12 ∧ v = lN j ∧ v.toInt.toNat = j := by
  obtain ⟨j, hj, e⟩ := pk_lOf (Int64.not_lt.mpr h.1)
  have h2 := h.2
  rw [e] at h2
  have h3 := (pk_lLE (b := 11) hj (by omega)).mp h2
  exact ⟨j, by omega, e, by rw [e, pk_lT hj]; rfl⟩
theorem ptv_le (α : Ab) (s : Nat) (v : Int64) (k : Nat) : ptv α s v k ≤ 100 := by
  unfold ptv
  by_cases h : 0 ≤ v ∧ v ≤ 11
  · obtain ⟨j, hj, _, e⟩ := lv_of h
    rw [if_pos h, e]
    exact pt_le α s k hj
  · rw [if_neg h]; omega
theorem partsV_C {α : Ab} {k1 : Nat} {σ : St} (ho : OkA k1 α) (hc : AbsC α σ) {s k : Nat} (hs : s < 12) (hk : k < 10) (v : Int64) : ∃ σ', f_X5_parts σ (nI s) (lvN v) (nI k) = some (nI (ptv α s v k), σ') ∧ FrC σ σ' ∧ AbsC α σ' := by
  unfold lvN ptv
  by_cases h : 0 ≤ v ∧ v ≤ 11
  · obtain ⟨j, hj, e1, e2⟩ := lv_of h
    rw [if_pos h, if_pos h, e2, e1, lN_i]
    exact parts_C ho hc hs hj hk
  · rw [if_neg h, if_neg h]
    exact ⟨σ, parts_C0 _ _ _ (by decide), FrC.rf σ, hc⟩
theorem partV_M {α : Ab} {k1 : Nat} {τ : St} (ho : OkA k1 α) (hm : AbsM α τ) {s k : Nat} (hs : s < 12) (hk : k < 10) (v : Int64) : ∃ τ', f_X12_partOfHeard τ (nI s) v (nI k) = some (nI (ptv α s v k), τ') ∧ FrM τ τ' ∧ AbsM α τ' := by
  unfold ptv
  by_cases h : 0 ≤ v ∧ v ≤ 11
  · obtain ⟨j, hj, e1, e2⟩ := lv_of h
    rw [if_pos h, e2, e1]
    exact part_M ho hm hs hj hk
  · rw [if_neg h]
    exact ⟨τ, part_M0 _ _ _ h, FrM.rf τ, hm⟩
/-! draws -/
def zzN (z : Int32) : Nat := z.toBitVec.toNat / 256
theorem zz_lt (z : Int32) : zzN z < 2 ^ 24 := by
  unfold zzN
  have := z.toBitVec.isLt
  omega
theorem zz_e (z : Int32) : (z.toUInt32 >>> (((8 : Int32) : Int32).toUInt32 &&& Int32.toUInt32 31)).toInt32 = nI (zzN z) := by
  have h := pk_ushr z 8 8 (by decide)
  have h2 := zz_lt z
  refine Int32.toBitVec_inj.mp (BitVec.eq_of_toNat_eq ?_)
  rw [h, pk_tn (by omega)]
  rfl
/-- the first LETTER at which WEIGHTS together are more than v -/
def hdF (α : Ab) (s k v : Nat) : Nat → Nat → Nat
  | 0, _ => s
  | m + 1, h => if v < wsum α s k (h + 1) then h else hdF α s k v m (h + 1)
theorem hd_lt (α : Ab) {s : Nat} (hs : s < 12) (k v : Nat) : ∀ m h, h + m = 12 → hdF α s k v m h < 12
  | 0, _, _ => hs
  | m + 1, h, e => by
    rw [hdF]
    split
    · omega
    · exact hd_lt α hs k v m (h + 1) (by omega)
theorem heardBy_loop {α : Ab} {k1 : Nat} (ho : OkA k1 α) {s k v : Nat} (hs : s < 12) (hk : k < 10) (hv : v < 2 ^ 24) : ∀ m h f σ, h + m = 12 → m < f → AbsC α σ → wsum α s k h ≤ v → ∃ σ', f_X5_heardBy_b27 f σ (nI s) (nI k) (nI (v - wsum α s k h)) (nI h) = some (nI (hdF α s k v m h), σ') ∧ FrC σ σ' ∧ AbsC α σ' := by
  intro m
  induction m with
  | zero =>
    intro h f σ hh hf hc hw
    obtain ⟨g, rfl⟩ : ∃ g, f = g + 1 := ⟨f - 1, by omega⟩
    have h12 : h = 12 := by omega
    subst h12
    rw [f_X5_heardBy_b27, if_pos (show (12 : Int32) ≤ nI 12 from Int32.le_refl _)]
    exact ⟨σ, rfl, FrC.rf σ, hc⟩
  | succ m ih =>
    intro h f σ hh hf hc hw
    obtain ⟨g, rfl⟩ : ∃ g, f = g + 1 := ⟨f - 1, by omega⟩
    have hh12 : h < 12 := by omega
    obtain ⟨σ', e1, e2, e3⟩ := weight_C ho hc hs hh12 hk
    have hb := wt_le α s h k
    rw [f_X5_heardBy_b27, if_neg (show ¬ (12 : Int32) ≤ nI h from nI_ge (b := 12) hh12 (by omega)), e1, bnd2_e, bnd_e, hdF]
    by_cases hl : v < wsum α s k (h + 1)
    · rw [if_pos hl]
      rw [wsum] at hl
      rw [if_neg (Int32.not_le.mpr (pk_sneg (by omega) (by omega)))]
      exact ⟨σ', rfl, e2, e3⟩
    · rw [if_neg hl]
      have hl2 := Nat.not_lt.mp hl
      rw [wsum] at hl2
      rw [pk_sub (by omega), if_pos (nI_0le (by omega)), bnd_e, nI_p1]
      obtain ⟨σ2, q1, q2, q3⟩ := ih (h + 1) g σ' (by omega) (by omega) e3 (Nat.not_lt.mp hl)
      refine ⟨σ2, ?_, e2.tr q2, q3⟩
      rw [wsum] at q1
      rw [show v - wsum α s k h - wt α s h k = v - (wsum α s k h + wt α s h k) by omega]
      exact q1
/-- what is heard by a draw -/
def hbF (α : Ab) (s k : Nat) (z : Int32) : Nat := if wsum α s k 12 = 0 then s else hdF α s k (zzN z % wsum α s k 12) 12 0
theorem hb_lt (α : Ab) {s : Nat} (hs : s < 12) (k : Nat) (z : Int32) : hbF α s k z < 12 := by
  unfold hbF
  split
  · exact hs
  · exact hd_lt α hs _ _ 12 0 rfl
theorem heardBy_C {α : Ab} {k1 : Nat} {σ : St} (ho : OkA k1 α) (hc : AbsC α σ) {s k : Nat} (hs : s < 12) (hk : k < 10) (z : Int32) : ∃ σ', f_X5_heardBy σ z (nI s) (nI k) = some (nI (hbF α s k z), σ') ∧ FrC σ σ' ∧ AbsC α σ' := by
  obtain ⟨σ', e1, e2, e3⟩ := total_C ho hc hs hk
  have hbd := wsum_le α s k 12
  have hz := zz_lt z
  unfold f_X5_heardBy hbF
  rw [e1, bnd2_e]
  by_cases h0 : wsum α s k 12 = 0
  · rw [if_pos ((nI_z (by omega)).mpr h0), if_pos h0]
    exact ⟨σ', rfl, e2, e3⟩
  · have hn : ¬ nI (wsum α s k 12) = 0 := fun q => h0 ((nI_z (by omega)).mp q)
    rw [if_neg hn, if_neg h0, chk_e hn, bnd_e, zz_e, pk_rem (by omega) (by omega) (by omega)]
    obtain ⟨σ2, q1, q2, q3⟩ := heardBy_loop ho (v := zzN z % wsum α s k 12) hs hk (by have := Nat.mod_le (zzN z) (wsum α s k 12); omega) 12 0 256 σ' (by omega) (by omega) e3 (Nat.zero_le _)
    exact ⟨σ2, q1, e2.tr q2, q3⟩
theorem drawn_loop (α : Ab) {s k v : Nat} {τ : St} (hw : ∀ x, x < 12 → τ.2.2.1 619 0 x = nI (wt α s x k)) (hv : v < wsum α s k 12) : ∀ m h f, h + m = 12 → m < f → 0 < m → f_X12_drawnFor_b31 f τ (nI v) (nI h) (nI (wsum α s k (h + 1))) = some (nI (hdF α s k v m h), τ) := by
  intro m
  induction m with
  | zero => intro h f _ _ h0; omega
  | succ m ih =>
    intro h f hh hf _
    obtain ⟨g, rfl⟩ : ∃ g, f = g + 1 := ⟨f - 1, by omega⟩
    have h1 := wsum_le α s k 12
    have h2 := wsum_le α s k (h + 1)
    rw [f_X12_drawnFor_b31, hdF]
    by_cases hl : v < wsum α s k (h + 1)
    · rw [if_pos (nI_lt hl (by omega)), if_pos hl]
    · rw [if_neg (fun q => hl ((nI_ltI (by omega) (by omega)).mp q)), if_neg hl, bnd_e, nI_p1]
      have hm0 : 0 < m := by
        by_cases q : m = 0
        · subst q
          rw [show h + 1 = 12 by omega] at hl
          exact absurd hv hl
        · omega
      rw [chk_in (show h + 1 < 12 by omega) (by omega), nI_clamp (by omega), hw (h + 1) (by omega), bnd_e, nI_add]
      exact ih (h + 1) g (by omega) (by omega) hm0
def nxt (z : Int32) : Int32 := z * 1103515245 + 12345
theorem nxt_e (z : Int32) : z * 1103515245 + 12345 = nxt z := rfl
theorem sI_at (σ : St) (f o : Nat) (v : Int32) : (sI σ f o v).1 f o = v := if_pos ⟨rfl, rfl⟩
/-- the draws' number after a LETTER: none is drawn, if it has no WEIGHTS -/
def nzN (α : Ab) (s k : Nat) (z : Int32) : Int32 := if wsum α s k 12 = 0 then z else nxt z
theorem drawnFor_M {α : Ab} {k1 : Nat} {τ : St} (ho : OkA k1 α) (hm : AbsM α τ) {s k : Nat} (hs : s < 12) (hk : k < 10) : ∃ τ', f_X12_drawnFor τ (nI s) (nI k) = some (nI (hbF α s k (nzN α s k (τ.1 622 0))), τ') ∧ FrM (sI τ 622 0 (nzN α s k (τ.1 622 0))) τ' ∧ AbsM α τ' := by
  obtain ⟨τ', e1, e2, e3, e4⟩ := asks_M ho hm hs hk
  have hbd := wsum_le α s k 12
  have hz622 : τ'.1 622 0 = τ.1 622 0 := e2.1 622 0 (by decide)
  unfold f_X12_drawnFor hbF nzN
  rw [e1, bnd2_e]
  by_cases h0 : wsum α s k 12 = 0
  · rw [if_pos ((nI_z (by omega)).mpr h0), if_pos h0]
    simp only [if_pos h0]
    refine ⟨τ', rfl, ?_, e3⟩
    refine ⟨fun f o h => ?_, e2.2.1, e2.2.2.1, e2.2.2.2⟩
    show τ'.1 f o = if f = 622 ∧ o = 0 then τ.1 622 0 else τ.1 f o
    by_cases q : f = 622 ∧ o = 0
    · rw [if_pos q, q.1, q.2]; exact hz622
    · rw [if_neg q]; exact e2.1 f o h
  · have hn : ¬ nI (wsum α s k 12) = 0 := fun q => h0 ((nI_z (by omega)).mp q)
    simp only [if_neg hn, if_neg h0]
    unfold f_X12_draws
    rw [hz622, nxt_e, bnd_e, chk_e hn]
    have hu : (sI τ' 622 0 (nxt (τ.1 622 0))).1 622 0 = nxt (τ.1 622 0) := sI_at _ _ _ _
    have hz := zz_lt (nxt (τ.1 622 0))
    rw [hu, zz_e, pk_rem (by omega) (by omega) (by omega), bnd2_e, kc0, bnd_e]
    have h619 : ∀ x, x < 12 → (sI τ' 622 0 (nxt (τ.1 622 0))).2.2.1 619 0 x = nI (wt α s x k) := e4
    rw [h619 0 (by omega)]
    have hl : f_X12_drawnFor_b31 256 (sI τ' 622 0 (nxt (τ.1 622 0))) (nI (zzN (nxt (τ.1 622 0)) % wsum α s k 12)) (0 : Int32) (nI (wt α s 0 k)) = some (nI (hdF α s k (zzN (nxt (τ.1 622 0)) % wsum α s k 12) 12 0), sI τ' 622 0 (nxt (τ.1 622 0))) := by
      have q := drawn_loop α (v := zzN (nxt (τ.1 622 0)) % wsum α s k 12) h619 (Nat.mod_lt _ (by omega)) 12 0 256 (by omega) (by omega) (by omega)
      have e1 : wsum α s k (0 + 1) = wt α s 0 k := Nat.zero_add _
      rw [e1] at q
      exact q
    refine ⟨_, hl, ?_, ⟨e3.1, e3.2⟩⟩
    refine ⟨fun f o h => ?_, e2.2.1, e2.2.2.1, e2.2.2.2⟩
    show (if f = 622 ∧ o = 0 then _ else τ'.1 f o) = if f = 622 ∧ o = 0 then _ else τ.1 f o
    by_cases q : f = 622 ∧ o = 0
    · rw [if_pos q, if_pos q]
    · rw [if_neg q, if_neg q]; exact e2.1 f o h
