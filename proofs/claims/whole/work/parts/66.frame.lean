theorem cache_cong {α β : Ab} {w t : Nat → Int32} (h1 : aLW β = aLW α) (h2 : aAL β = aAL α) (h3 : aNO β = aNO α) (h : CacheC α w t) : CacheC β w t := by
  have e1 : ∀ s h k, wv β s h k = wv α s h k := by
    intro s h k
    unfold wv
    rw [h1, h2, h3]
  have e2 : ∀ s h k, wt β s h k = wt α s h k := by
    intro s h k
    unfold wt
    rw [e1]
  have e3 : ∀ s k n, wsum β s k n = wsum α s k n := by
    intro s k n
    induction n with
    | zero => rfl
    | succ n ih => rw [wsum, wsum, ih, e2]
  intro k s hk hs
  rcases h k s hk hs with z | ⟨z1, z2⟩
  · exact Or.inl z
  · refine Or.inr ⟨by rw [e3]; exact z1, fun x hx => by rw [e2]; exact z2 x hx⟩
theorem law_cong {L : Option LF} {σ σ' : St} (h1 : σ'.2.2.2.2 254 = σ.2.2.2.2 254) (h2 : ∀ j, σ'.2.2.1 200 j = σ.2.2.1 200 j) (h3 : ∀ j, σ'.1 203 j = σ.1 203 j) (h : LawC L σ) : LawC L σ' := by
  cases L with
  | none => exact h1.trans h
  | some f =>
    obtain ⟨j, e1, e2⟩ := h
    refine ⟨j, h1.trans e1, ?_⟩
    rw [h2, h3]
    exact e2
theorem lawM_cong {L : Option LF} {τ τ' : St} (h1 : τ'.2.2.1 611 0 = τ.2.2.1 611 0) (h2 : τ'.1 612 0 = τ.1 612 0) (h : LawM L τ) : LawM L τ' := by
  cases L with
  | none => exact h2.trans h
  | some f =>
    refine ⟨by rw [h2]; exact h.1, ?_⟩
    rw [h1, h2]
    exact h.2
def uTP (α : Ab) (l : List Nat) : Ab := (α.1, α.2.1, α.2.2.1, l, α.2.2.2.2)
def uD (α : Ab) (d : DD) : Ab := (α.1, α.2.1, α.2.2.1, α.2.2.2.1, α.2.2.2.2.1, (d, α.2.2.2.2.2.1.2), α.2.2.2.2.2.2)
def uIM (α : Ab) (d : Option DD) : Ab := (α.1, α.2.1, α.2.2.1, α.2.2.2.1, α.2.2.2.2.1, (α.2.2.2.2.2.1.1, d), α.2.2.2.2.2.2)
def uBK (α : Ab) (l : List Nat) : Ab := (α.1, α.2.1, α.2.2.1, α.2.2.2.1, α.2.2.2.2.1, α.2.2.2.2.2.1, (l, α.2.2.2.2.2.2.1.2), α.2.2.2.2.2.2.2)
def uSH (α : Ab) (s : Nat → Nat × Nat × (Nat → Int64)) : Ab := (α.1, α.2.1, α.2.2.1, α.2.2.2.1, α.2.2.2.2.1, α.2.2.2.2.2.1, α.2.2.2.2.2.2.1, s)
theorem gd_l {β : Type} (l : List β) (x d : β) {i : Nat} (h : i < l.length) : (l ++ [x]).getD i d = l.getD i d := by rw [List.getD_eq_getElem?_getD, List.getD_eq_getElem?_getD, List.getElem?_append_left h]
theorem gd_r {β : Type} (l : List β) (x d : β) : (l ++ [x]).getD l.length d = x := by
  rw [List.getD_eq_getElem?_getD, List.getElem?_append_right (Nat.le_refl _), Nat.sub_self]
  rfl
theorem gd_o {β : Type} (l : List β) (d : β) {i : Nat} (h : l.length ≤ i) : l.getD i d = d := by
  rw [List.getD_eq_getElem?_getD, List.getElem?_eq_none h]
  rfl
theorem gd_all {β : Type} {P : β → Prop} {l : List β} {x d : β} (h : ∀ i, P (l.getD i d)) (hx : P x) (i : Nat) : P ((l ++ [x]).getD i d) := by
  by_cases h1 : i < l.length
  · rw [gd_l l x d h1]; exact h i
  · by_cases h2 : i = l.length
    · subst h2; rw [gd_r]; exact hx
    · have h3 : (l ++ [x]).length ≤ i := by rw [List.length_append]; show l.length + 1 ≤ i; omega
      rw [gd_o _ d h3]
      have h4 := h i
      rw [gd_o l d (by omega)] at h4
      exact h4
theorem tape_push {l : List Nat} {len : Int32} {t : Nat → Int32} (j : Nat) (h : TapeP l len t) (hl : l.length < 1000) : TapeP (l ++ [j]) (len + 1) (upd t len.toNatClampNeg (nI j)) := by
  have hc : len.toNatClampNeg = l.length := by rw [h.1]; exact nI_clamp (by omega)
  have hn : (l ++ [j]).length = l.length + 1 := by rw [List.length_append]; rfl
  refine ⟨by rw [h.1, hn]; exact nI_add _ 1, fun i hi => ?_⟩
  rw [hn] at hi
  rw [hc]
  by_cases h1 : i = l.length
  · subst h1; rw [pk_us, gd_r]
  · rw [pk_un h1, gd_l l j 0 (by omega)]; exact h.2 i (by omega)
theorem one_n0 : ¬ (1 : Int32) = 0 := by decide
theorem absC_TP {α : Ab} {σ : St} {l : List Nat} {t : Nat → Int32} {v : Int32} (h : AbsC α σ) (hT : TapeP l v t) : AbsC (uTP α l) (sI (sA σ 350 0 t) 351 0 v) := ⟨h.1, h.2.1, cache_cong rfl rfl rfl h.2.2.1, law_cong rfl (fun _ => rfl) (fun _ => rfl) h.2.2.2.1, h.2.2.2.2.1, hT, h.2.2.2.2.2.2⟩
theorem absM_TP {α : Ab} {τ : St} {l : List Nat} {t : Nat → Int32} {v : Int32} (h : AbsM α τ) (hT : TapeP l v t) : AbsM (uTP α l) (sI (sA τ 609 0 t) 610 0 v) := ⟨h.1, h.2.1, lawM_cong rfl rfl h.2.2.1, hT, h.2.2.2.2⟩
theorem okA_TP {k : Nat} {α : Ab} {l : List Nat} (h : OkA k α) (hT : OkT l) : OkA k (uTP α l) := ⟨h.1, h.2.1, hT, h.2.2.2⟩
theorem absC_BK {α : Ab} {σ : St} {l : List Nat} {t : Nat → Int32} {v : Int32} (h : AbsC α σ) (hT : TapeP l v t) : AbsC (uBK α l) (sI (sA σ 500 0 t) 502 0 v) := ⟨h.1, h.2.1, cache_cong rfl rfl rfl h.2.2.1, law_cong rfl (fun _ => rfl) (fun _ => rfl) h.2.2.2.1, h.2.2.2.2.1, h.2.2.2.2.2.1, h.2.2.2.2.2.2.1, h.2.2.2.2.2.2.2.1, h.2.2.2.2.2.2.2.2.1, ⟨hT.1, hT.2, h.2.2.2.2.2.2.2.2.2.1.2.2⟩, h.2.2.2.2.2.2.2.2.2.2⟩
theorem absM_BK {α : Ab} {τ : St} {l : List Nat} {t : Nat → Int32} {v : Int32} (h : AbsM α τ) (hT : TapeP l v t) : AbsM (uBK α l) (sI (sA τ 634 0 t) 633 0 v) := ⟨h.1, h.2.1, lawM_cong rfl rfl h.2.2.1, h.2.2.2.1, h.2.2.2.2.1, h.2.2.2.2.2.1, h.2.2.2.2.2.2.1, ⟨hT.1, hT.2, h.2.2.2.2.2.2.2.1.2.2⟩, h.2.2.2.2.2.2.2.2⟩
theorem okA_BK {k : Nat} {α : Ab} {l : List Nat} (h : OkA k α) (hB : OkB l (aRN α)) (hl : (aBK α).length ≤ l.length) : OkA k (uBK α l) := by
  refine ⟨h.1, h.2.1, h.2.2.1, h.2.2.2.1, h.2.2.2.2.1, h.2.2.2.2.2.1, hB, fun d hd => ?_⟩
  rcases h.2.2.2.2.2.2.2 d hd with z | z | z
  · exact Or.inl z
  · exact Or.inr (Or.inl ⟨z.1, Nat.le_trans z.2 hl⟩)
  · exact Or.inr (Or.inr z)
theorem len_push {β : Type} (l : List β) (x : β) : (l ++ [x]).length = l.length + 1 := by rw [List.length_append]; rfl
theorem st4 (k : Nat) : Step_4 (Rel k) (Rel (k + 1)) := by
  intro σ τ p hr
  obtain ⟨α, ho, hc, hm⟩ := hr
  have hR : Rel (k + 1) σ τ := ⟨α, okA_mono ho, hc, hm⟩
  have hl := (oTp ho).1
  have hw : f_X12_within p.toInt64 0 255 = some (tf (0 ≤ p ∧ p ≤ 255)) := w32 p 0 255
  unfold f_X11_feed f_X12_feed f_X7_take f_X7_take0
  rw [hw]
  by_cases h0 : p < 0
  · rw [tf_f (fun q => absurd q.1 (Int32.not_le.mpr h0))]
    simp only [if_pos h0, bnd1_e]
    exact ⟨_, _, _, rfl, rfl, hR⟩
  · by_cases h1 : p ≤ 255
    · obtain ⟨j, hj, e⟩ := nI_of h0
      subst e
      have hj2 : j ≤ 255 := (nI_leI hj (by omega)).mp h1
      rw [tf_t ⟨Int32.not_lt.mp h0, h1⟩]
      simp only [if_neg h0, if_pos h1, bnd1_e, if_neg one_n0]
      by_cases h2 : (aTP α).length = 120
      · have e1 : ¬ σ.1 351 0 < 120 := by rw [(cTp hc).1, h2]; decide
        have e2 : τ.1 610 0 = 120 := by rw [(mTp hm).1, h2]; rfl
        simp only [if_neg e1, if_pos e2]
        exact ⟨-3, σ, τ, rfl, rfl, hR⟩
      · have e1 : σ.1 351 0 < 120 := by rw [(cTp hc).1]; exact nI_lt (b := 120) (by omega) (by omega)
        have e2 : ¬ τ.1 610 0 = 120 := by rw [(mTp hm).1]; exact fun z => h2 ((nI_eq (b := 120) (by omega) (by omega)).mp z)
        have c1 : ¬ (σ.1 351 0 < 0 ∨ 120 ≤ (σ.1 351 0).toNatClampNeg) := by rw [(cTp hc).1]; exact in_nI (by omega) (by omega)
        have c2 : ¬ (τ.1 610 0 < 0 ∨ 120 ≤ (τ.1 610 0).toNatClampNeg) := by rw [(mTp hm).1]; exact in_nI (by omega) (by omega)
        have e3 : σ.1 351 0 + 1 = nI ((aTP α).length + 1) := by rw [(cTp hc).1]; exact nI_add _ 1
        have e4 : τ.1 610 0 + 1 = nI ((aTP α).length + 1) := by rw [(mTp hm).1]; exact nI_add _ 1
        simp only [if_pos e1, if_neg e2, chk_e c1, chk_e c2]
        have hk : OkT (aTP α ++ [j]) := ⟨by rw [len_push]; omega, gd_all (P := fun x => x < 256) (oTp ho).2 (by omega)⟩
        exact ⟨_, _, _, congrArg (fun x => some (x, sI (sA σ 350 0 (upd (σ.2.2.1 350 0) (σ.1 351 0).toNatClampNeg (nI j))) 351 0 (σ.1 351 0 + 1))) e3, congrArg (fun x => some (x, sI (sA τ 609 0 (upd (τ.2.2.1 609 0) (τ.1 610 0).toNatClampNeg (nI j))) 610 0 (τ.1 610 0 + 1))) e4, ⟨uTP α (aTP α ++ [j]), okA_mono (okA_TP ho hk), absC_TP hc (tape_push j (cTp hc) (by omega)), absM_TP hm (tape_push j (mTp hm) (by omega))⟩⟩
    · rw [tf_f (fun q => h1 q.2)]
      simp only [if_neg h0, if_neg h1, bnd1_e]
      exact ⟨_, _, _, rfl, rfl, hR⟩
theorem st34 (k : Nat) : Step_34 (Rel k) (Rel (k + 1)) := by
  intro σ τ p hr
  obtain ⟨α, ho, hc, hm⟩ := hr
  have hR : Rel (k + 1) σ τ := ⟨α, okA_mono ho, hc, hm⟩
  have hl := (oSp ho).1
  have hw : f_X12_within p.toInt64 0 7 = some (tf (0 ≤ p ∧ p ≤ 7)) := w32 p 0 7
  have e87 : p < 8 ↔ p ≤ 7 := (le_pred (n := 8) (by omega)).symm
  unfold f_X11_body f_X12_body f_X10_make
  rw [hw]
  by_cases h0 : p < 0
  · rw [tf_f (fun q => absurd q.1 (Int32.not_le.mpr h0))]
    simp only [if_pos h0, bnd1_e]
    exact ⟨_, _, _, rfl, rfl, hR⟩
  · by_cases h1 : p < 8
    · obtain ⟨j, hj, e⟩ := nI_of h0
      subst e
      have hj2 : j < 8 := (nI_ltI (b := 8) hj (by omega)).mp h1
      rw [tf_t ⟨Int32.not_lt.mp h0, e87.mp h1⟩]
      simp only [if_neg h0, if_pos h1, bnd1_e, if_neg one_n0]
      have cS : TapeP (aBK α) (σ.1 502 0) (σ.2.2.1 500 0) := ⟨(cSp hc).1, (cSp hc).2.1⟩
      have mS : TapeP (aBK α) (τ.1 633 0) (τ.2.2.1 634 0) := ⟨(mSp hm).1, (mSp hm).2.1⟩
      by_cases h2 : (aBK α).length = 50
      · have e1 : ¬ σ.1 502 0 < 50 := by rw [cS.1, h2]; decide
        have e2 : τ.1 633 0 = 50 := by rw [mS.1, h2]; rfl
        simp only [if_neg e1, if_pos e2]
        exact ⟨-3, σ, τ, rfl, rfl, hR⟩
      · have e1 : σ.1 502 0 < 50 := by rw [cS.1]; exact nI_lt (b := 50) (by omega) (by omega)
        have e2 : ¬ τ.1 633 0 = 50 := by rw [mS.1]; exact fun z => h2 ((nI_eq (b := 50) (by omega) (by omega)).mp z)
        have c1 : ¬ (σ.1 502 0 < 0 ∨ 50 ≤ (σ.1 502 0).toNatClampNeg) := by rw [cS.1]; exact in_nI (by omega) (by omega)
        have c2 : ¬ (τ.1 633 0 < 0 ∨ 50 ≤ (τ.1 633 0).toNatClampNeg) := by rw [mS.1]; exact in_nI (by omega) (by omega)
        have e3 : τ.1 633 0 + 1 - 1 = σ.1 502 0 + 1 - 1 := by rw [cS.1, mS.1]
        simp only [if_pos e1, if_neg e2, chk_e c1, chk_e c2]
        have hk : OkB (aBK α ++ [j]) (aRN α) := ⟨by rw [len_push]; omega, gd_all (P := fun x => x < 8) (oSp ho).2.1 (by omega), (oSp ho).2.2⟩
        exact ⟨σ.1 502 0 + 1 - 1, _, _, rfl, congrArg (fun x => some (x, sI (sA τ 634 0 (upd (τ.2.2.1 634 0) (τ.1 633 0).toNatClampNeg (nI j))) 633 0 (τ.1 633 0 + 1))) e3, ⟨uBK α (aBK α ++ [j]), okA_mono (okA_BK ho hk (by rw [len_push]; omega)), absC_BK hc (tape_push j cS (by omega)), absM_BK hm (tape_push j mS (by omega))⟩⟩
    · rw [tf_f (fun q => h1 (e87.mpr q.2))]
      simp only [if_neg h0, if_neg h1, bnd1_e]
      exact ⟨_, _, _, rfl, rfl, hR⟩
