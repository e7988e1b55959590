/-! 28 hang -/
def hgC (σ : St) (y : Int32) : St := sI (sI (sI (sI σ 53 0 (σ.1 53 0 + 1)) 54 0 ((sI σ 53 0 (σ.1 53 0 + 1)).1 54 0 + y)) 52 0 (-1)) 56 0 0
def hgD (d : DD) (y : Int32) : DD := (-1, d.2.1, d.2.2.1, d.2.2.2.1, 0, d.2.2.2.2.2.1 + 1, d.2.2.2.2.2.2.1 + y, d.2.2.2.2.2.2.2)
theorem absC_hg {α : Ab} {σ : St} (hc : AbsC α σ) (y : Int32) : AbsC (uD α (hgD (aD α) y)) (hgC σ y) := ⟨hc.1, hc.2.1, cache_cong rfl rfl rfl hc.2.2.1, law_cong rfl (fun _ => rfl) (fun _ => rfl) hc.2.2.2.1, hc.2.2.2.2.1, hc.2.2.2.2.2.1, hc.2.2.2.2.2.2.1, ⟨rfl, rfl, congrArg (fun x => x + 1) (cDe hc).2.2.1, congrArg (fun x => x + y) (cDe hc).2.2.2.1, (cDe hc).2.2.2.2.1, fun h => absurd rfl h⟩, hc.2.2.2.2.2.2.2.2⟩
theorem absM_hg {α : Ab} {τ : St} (hm : AbsM α τ) (y : Int32) : AbsM (uD α (hgD (aD α) y)) (hgM τ y) := ⟨hm.1, hm.2.1, lawM_cong rfl rfl hm.2.2.1, hm.2.2.2.1, hm.2.2.2.2.1, ⟨rfl, congrArg (fun x => x + 1) (mDe hm).2.1, congrArg (fun x => x + y) (mDe hm).2.2.1, (mDe hm).2.2.2.1, fun h => absurd rfl h⟩, hm.2.2.2.2.2.2⟩
theorem end_C (σ : St) (y : Int32) (h : y = 0 ∨ y = 1) : f_X11_hang_b46 σ y = some (y, hgC σ y) := by
  rcases h with h | h
  · subst h; rfl
  · subst h; rfl
theorem st28 (k : Nat) (hk : k < 512) : Step_28 (Rel k) (Rel (k + 1)) := by
  intro σ τ hr
  obtain ⟨α, ho, hc, hm⟩ := hr
  have hR : Rel (k + 1) σ τ := ⟨α, okA_mono ho, hc, hm⟩
  have hl := (oNm ho).1
  unfold f_X11_hang f_X12_hang
  rw [(cDe hc).1, (mDe hm).1]
  rcases (oDe ho).1 with ⟨z, z2⟩ | ⟨n, hn, z⟩
  · rw [z, if_neg neg1_nle, if_neg neg1_nle]
    exact ⟨_, _, _, rfl, rfl, hR⟩
  · have h6 := ((oNm ho).2.1 n hn).2
    have h0 : (0 : Int32) ≤ (aD α).1 := by rw [z]; exact nI_0le (by omega)
    rw [if_pos h0, if_pos h0]
    have e1 : f_X1_missing σ 0 = some (nI (0 + cM (aD α) 0 (nmL (aN α) n).length), σ) := missing_loop hk ho hc hn z (nmL (aN α) n).length 0 0 256 (by omega) (by omega)
    have e2 : f_X1_wrong σ 0 = some (nI (0 + cW (aN α) (aD α) n 0 (nmL (aN α) n).length), σ) := wrong_loop hk ho hc hn z (nmL (aN α) n).length 0 0 256 (by omega) (by omega)
    have e3 : f_X12_hang_b14 256 τ (1 : Int32) (0 : Int32) = _ := hangM_loop ho hm hn z (nmL (aN α) n).length 0 1 256 (by omega) (by omega)
    have b1 : ∀ m i, cM (aD α) i m ≤ m := by
      intro m
      induction m with
      | zero => intro i; exact Nat.le_refl 0
      | succ m ih =>
        intro i
        rw [cM]
        have := ih (i + 1)
        split <;> omega
    have b2 : ∀ m i, cW (aN α) (aD α) n i m ≤ m := by
      intro m
      induction m with
      | zero => intro i; exact Nat.le_refl 0
      | succ m ih =>
        intro i
        rw [cW]
        have := ih (i + 1)
        split <;> omega
    have kc1 := b1 (nmL (aN α) n).length 0
    have kc2 := b2 (nmL (aN α) n).length 0
    have key : ∀ y : Int32, (y = 0 ∨ y = 1) → Rel (k + 1) (hgC σ y) (hgM τ y) := fun y hy => ⟨uD α (hgD (aD α) y), okA_mono (okA_D ho ⟨Or.inl ⟨rfl, rfl⟩, (oDe ho).2⟩), absC_hg hc y, absM_hg hm y⟩
    rw [e1, bnd2_e, e2, bnd2_e, e3, Nat.zero_add, Nat.zero_add]
    unfold f_X11_hang_b45
    by_cases q1 : cM (aD α) 0 (nmL (aN α) n).length = 0
    · rw [if_pos (show nI (cM (aD α) 0 (nmL (aN α) n).length) = 0 by rw [q1]; rfl)]
      by_cases q2 : cW (aN α) (aD α) n 0 (nmL (aN α) n).length = 0
      · rw [if_pos (show nI (cW (aN α) (aD α) n 0 (nmL (aN α) n).length) = 0 by rw [q2]; rfl), end_C σ 1 (Or.inr rfl), if_pos (show cM (aD α) 0 (nmL (aN α) n).length + cW (aN α) (aD α) n 0 (nmL (aN α) n).length = 0 by omega)]
        exact ⟨_, _, _, rfl, rfl, key 1 (Or.inr rfl)⟩
      · rw [if_neg (fun y => q2 ((nI_z (by omega)).mp y)), end_C σ 0 (Or.inl rfl), if_neg (show ¬ cM (aD α) 0 (nmL (aN α) n).length + cW (aN α) (aD α) n 0 (nmL (aN α) n).length = 0 by omega)]
        exact ⟨_, _, _, rfl, rfl, key 0 (Or.inl rfl)⟩
    · rw [if_neg (fun y => q1 ((nI_z (by omega)).mp y)), end_C σ 0 (Or.inl rfl), if_neg (show ¬ cM (aD α) 0 (nmL (aN α) n).length + cW (aN α) (aD α) n 0 (nmL (aN α) n).length = 0 by omega)]
      exact ⟨_, _, _, rfl, rfl, key 0 (Or.inl rfl)⟩
/-! 30 image -/
theorem sA_sA (σ : St) (f o : Nat) (a b : Nat → Int32) : sA (sA σ f o a) f o b = sA σ f o b := by
  refine sA_ext rfl rfl (fun f' o' => ?_) rfl
  show (if f' = f ∧ o' = o then b else if f' = f ∧ o' = o then a else σ.2.2.1 f' o') = (if f' = f ∧ o' = o then b else σ.2.2.1 f' o')
  by_cases h : f' = f ∧ o' = o
  · rw [if_pos h, if_pos h]
  · rw [if_neg h, if_neg h, if_neg h]
theorem kc6 : (6 : Int32).toNatClampNeg = 6 := by decide
theorem kc12 : (12 : Int32).toNatClampNeg = 12 := by decide
theorem kc13 : (13 : Int32).toNatClampNeg = 13 := by decide
theorem kc14 : (14 : Int32).toNatClampNeg = 14 := by decide
theorem kc15 : (15 : Int32).toNatClampNeg = 15 := by decide
theorem kc16 : (16 : Int32).toNatClampNeg = 16 := by decide
theorem kc17 : (17 : Int32).toNatClampNeg = 17 := by decide
/-- an image that is laid: rows from place i on -/
def ImgAt (τ : St) (F : Nat → Int32) (i : Nat) : Prop := (∀ j, i ≤ j → j < 6 → F j = τ.2.2.1 626 0 j ∧ F (6 + j) = τ.2.2.1 627 0 j) ∧ (∀ j, j < i → F j = τ.2.2.1 632 0 j ∧ F (6 + j) = τ.2.2.1 632 0 (6 + j)) ∧ F 12 = τ.1 623 0 ∧ F 13 = τ.1 624 0 ∧ F 14 = τ.1 625 0 ∧ F 15 = τ.1 628 0 ∧ F 16 = τ.1 629 0 ∧ F 17 = τ.1 630 0
theorem image_loop : ∀ m i f τ, i + m = 6 → m < f → ∃ F, f_X12_image_b7 f τ (nI i) = some (τ.1 628 0, sA τ 632 0 F) ∧ ImgAt τ F i := by
  intro m
  induction m with
  | zero =>
    intro i f τ hi hf
    obtain ⟨f, rfl⟩ : ∃ x, f = x + 1 := ⟨f - 1, by omega⟩
    have e : i = 6 := by omega
    subst e
    rw [f_X12_image_b7, if_pos (show (6 : Int32) ≤ nI 6 from Int32.le_refl _)]
    simp only [bnd_e, kc12, kc13, kc14, kc15, kc16, kc17, sA_sA]
    refine ⟨_, rfl, fun j h1 h2 => absurd h2 (by omega), fun j hj => ?_, rfl, rfl, rfl, rfl, rfl, rfl⟩
    constructor
    · exact (pk_un (by omega)).trans ((pk_un (by omega)).trans ((pk_un (by omega)).trans ((pk_un (by omega)).trans ((pk_un (by omega)).trans (pk_un (by omega))))))
    · exact (pk_un (by omega)).trans ((pk_un (by omega)).trans ((pk_un (by omega)).trans ((pk_un (by omega)).trans ((pk_un (by omega)).trans (pk_un (by omega))))))
  | succ m ih =>
    intro i f τ hi hf
    obtain ⟨f, rfl⟩ : ∃ x, f = x + 1 := ⟨f - 1, by omega⟩
    have hi6 : i < 6 := by omega
    have e6 : (6 : Int32) + nI i = nI (6 + i) := nI_add 6 i
    rw [f_X12_image_b7, if_neg (show ¬ (6 : Int32) ≤ nI i from nI_ge (b := 6) hi6 (by omega)), e6]
    simp only [chk_in hi6 (show 6 ≤ 2000000000 by omega), chk_in (show i < 18 by omega) (show 18 ≤ 2000000000 by omega), chk_in (show 6 + i < 18 by omega) (show 18 ≤ 2000000000 by omega), bnd_e, nI_p1, sA_sA]
    simp only [bnd_e, nI_p1, nI_clamp (show i < 2 ^ 31 by omega), nI_clamp (show 6 + i < 2 ^ 31 by omega), sA_sA]
    obtain ⟨F, h1, h2, h3, h4⟩ := ih (i + 1) f (sA τ 632 0 (upd (upd (τ.2.2.1 632 0) i (τ.2.2.1 626 0 i)) (6 + i) (τ.2.2.1 627 0 i))) (by omega) (by omega)
    rw [sA_sA] at h1
    refine ⟨F, h1, fun j q1 q2 => ?_, fun j hj => ?_, h4⟩
    · by_cases e : j = i
      · subst e
        have h5 := h3 j (by omega)
        refine ⟨h5.1.trans ?_, h5.2.trans ?_⟩
        · show upd (upd (τ.2.2.1 632 0) j (τ.2.2.1 626 0 j)) (6 + j) (τ.2.2.1 627 0 j) j = _
          rw [pk_un (by omega), pk_us]
        · show upd (upd (τ.2.2.1 632 0) j (τ.2.2.1 626 0 j)) (6 + j) (τ.2.2.1 627 0 j) (6 + j) = _
          rw [pk_us]
      · exact h2 j (by omega) q2
    · have h5 := h3 j (by omega)
      refine ⟨h5.1.trans ?_, h5.2.trans ?_⟩
      · show upd (upd (τ.2.2.1 632 0) i (τ.2.2.1 626 0 i)) (6 + i) (τ.2.2.1 627 0 i) j = _
        rw [pk_un (by omega), pk_un (by omega)]
      · show upd (upd (τ.2.2.1 632 0) i (τ.2.2.1 626 0 i)) (6 + i) (τ.2.2.1 627 0 i) (6 + j) = _
        rw [pk_un (by omega), pk_un (by omega)]
def bcm (σ : St) (a b : Nat) : St := sI (sI (sI (sI (sI (sI (sA (sA σ 50 a (va_cpy (σ.2.2.1 50 b) (σ.2.2.1 50 a) 0 0 6)) 51 a (va_cpy ((sA σ 50 a (va_cpy (σ.2.2.1 50 b) (σ.2.2.1 50 a) 0 0 6)).2.2.1 51 b) ((sA σ 50 a (va_cpy (σ.2.2.1 50 b) (σ.2.2.1 50 a) 0 0 6)).2.2.1 51 a) 0 0 6)) 52 a (σ.1 52 b)) 53 a (σ.1 53 b)) 54 a (σ.1 54 b)) 55 a (σ.1 55 b)) 56 a (σ.1 56 b)) 57 a (σ.1 57 b)
theorem become_10 (σ : St) : f_X1_become σ 1 0 = some (bcm σ 1 0) := by
  unfold f_X1_become bcm
  simp only [bnd_e, kc0, kc6]
  rfl
theorem become_01 (σ : St) : f_X1_become σ 0 1 = some (bcm σ 0 1) := by
  unfold f_X1_become bcm
  simp only [bnd_e, kc0, kc6]
  rfl
theorem cpy6 {f g : Nat → Int32} {i : Nat} (h : i < 6) : va_cpy f g 0 0 6 i = f i := by
  rw [pk_cpy_in (Nat.zero_le i) (by omega), Nat.zero_add, Nat.sub_zero]
theorem deed_img {d : DD} {σ : St} (h : DeedC d σ 0) : DeedC d (sI (bcm σ 1 0) 561 0 1) 1 := ⟨h.1, h.2.1, h.2.2.1, h.2.2.2.1, h.2.2.2.2.1, fun q => ⟨(h.2.2.2.2.2 q).1, fun i hi => ⟨(cpy6 hi).trans ((h.2.2.2.2.2 q).2 i hi).1, fun q2 => (cpy6 hi).trans (((h.2.2.2.2.2 q).2 i hi).2 q2)⟩⟩⟩
theorem deed_back {d : DD} {σ : St} (h : DeedC d σ 1) : DeedC d (bcm σ 0 1) 0 := ⟨h.1, h.2.1, h.2.2.1, h.2.2.2.1, h.2.2.2.2.1, fun q => ⟨(h.2.2.2.2.2 q).1, fun i hi => ⟨(cpy6 hi).trans ((h.2.2.2.2.2 q).2 i hi).1, fun q2 => (cpy6 hi).trans (((h.2.2.2.2.2 q).2 i hi).2 q2)⟩⟩⟩
theorem okA_IM {k : Nat} {α : Ab} {d : DD} (h : OkA k α) (hd : OkD (aN α) k d) : OkA k (uIM α (some d)) := ⟨h.1, h.2.1, h.2.2.1, h.2.2.2.1, h.2.2.2.2.1, (fun d' e => (by cases e; exact hd)), h.2.2.2.2.2.2⟩
theorem st30 (k : Nat) : Step_30 (Rel k) (Rel (k + 1)) := by
  intro σ τ hr
  obtain ⟨α, ho, hc, hm⟩ := hr
  unfold f_X11_image f_X12_image
  obtain ⟨F, h1, h2, h3, h4⟩ := image_loop 6 0 256 (sI τ 631 0 1) (by omega) (by omega)
  have h1' : f_X12_image_b7 256 (sI τ 631 0 1) (0 : Int32) = some (τ.1 628 0, sA (sI τ 631 0 1) 632 0 F) := h1
  rw [become_10, bnd1_e, h1']
  have e : (sI (bcm σ 1 0) 561 0 1).1 53 0 = τ.1 628 0 := (show σ.1 53 0 = τ.1 628 0 from (cDe hc).2.2.1.trans (mDe hm).2.1.symm)
  refine ⟨τ.1 628 0, _, _, congrArg (fun x => some (x, sI (bcm σ 1 0) 561 0 1)) e, rfl, uIM α (some (aD α)), okA_mono (okA_IM ho (oDe ho)), ?_, ?_⟩
  · refine ⟨hc.1, hc.2.1, cache_cong rfl rfl rfl hc.2.2.1, law_cong rfl (fun _ => rfl) (fun _ => rfl) hc.2.2.2.1, hc.2.2.2.2.1, hc.2.2.2.2.2.1, hc.2.2.2.2.2.2.1, hc.2.2.2.2.2.2.2.1, ⟨(tf_t (fun h => (by cases h))).symm, fun d e => ?_⟩, hc.2.2.2.2.2.2.2.2.2⟩
    have e' : aD α = d := Option.some.inj e
    rw [← e']
    exact deed_img (cDe hc)
  · refine ⟨hm.1, hm.2.1, lawM_cong rfl rfl hm.2.2.1, hm.2.2.2.1, hm.2.2.2.2.1, hm.2.2.2.2.2.1, ⟨(tf_t (fun h => (by cases h))).symm, fun d e => ?_⟩, hm.2.2.2.2.2.2.2⟩
    have e' : aD α = d := Option.some.inj e
    rw [← e']
    have hd := mDe hm
    refine ⟨h4.1.trans hd.1, h4.2.2.2.1.trans hd.2.1, h4.2.2.2.2.1.trans hd.2.2.1, h4.2.2.2.2.2.trans hd.2.2.2.1, fun q => ⟨h4.2.2.1.trans (hd.2.2.2.2 q).1, h4.2.1.trans (hd.2.2.2.2 q).2.1, fun i hi => ⟨(h2 i (Nat.zero_le i) hi).1.trans ((hd.2.2.2.2 q).2.2 i hi).1, (h2 i (Nat.zero_le i) hi).2.trans ((hd.2.2.2.2 q).2.2 i hi).2⟩⟩⟩
/-! 31 back -/
def bkS (τ : St) (F G : Nat → Int32) : St := sI (sI (sI (sI (sI (sI (sA (sA τ 626 0 F) 627 0 G) 623 0 (τ.2.2.1 632 0 12)) 624 0 (τ.2.2.1 632 0 13)) 625 0 (τ.2.2.1 632 0 14)) 628 0 (τ.2.2.1 632 0 15)) 629 0 (τ.2.2.1 632 0 16)) 630 0 (τ.2.2.1 632 0 17)
theorem bkS_in (τ : St) (a b F G : Nat → Int32) : bkS (sA (sA τ 626 0 a) 627 0 b) F G = bkS τ F G := by
  have e : bkS (sA (sA τ 626 0 a) 627 0 b) F G = sI (sI (sI (sI (sI (sI (sA (sA (sA (sA τ 626 0 a) 627 0 b) 626 0 F) 627 0 G) 623 0 (τ.2.2.1 632 0 12)) 624 0 (τ.2.2.1 632 0 13)) 625 0 (τ.2.2.1 632 0 14)) 628 0 (τ.2.2.1 632 0 15)) 629 0 (τ.2.2.1 632 0 16)) 630 0 (τ.2.2.1 632 0 17) := rfl
  rw [e, sA_4]
  rfl
theorem back_loop : ∀ m i f τ, i + m = 6 → m < f → ∃ F G, f_X12_back_b12 f τ (nI i) = some (τ.2.2.1 632 0 15, bkS τ F G) ∧ (∀ j, i ≤ j → j < 6 → F j = τ.2.2.1 632 0 j ∧ G j = τ.2.2.1 632 0 (6 + j)) ∧ (∀ j, j < i → F j = τ.2.2.1 626 0 j ∧ G j = τ.2.2.1 627 0 j) := by
  intro m
  induction m with
  | zero =>
    intro i f τ hi hf
    obtain ⟨f, rfl⟩ : ∃ x, f = x + 1 := ⟨f - 1, by omega⟩
    have e : i = 6 := by omega
    subst e
    refine ⟨τ.2.2.1 626 0, τ.2.2.1 627 0, ?_, fun j h1 h2 => absurd h2 (by omega), fun j _ => ⟨rfl, rfl⟩⟩
    have e2 : bkS τ (τ.2.2.1 626 0) (τ.2.2.1 627 0) = sI (sI (sI (sI (sI (sI τ 623 0 (τ.2.2.1 632 0 12)) 624 0 (τ.2.2.1 632 0 13)) 625 0 (τ.2.2.1 632 0 14)) 628 0 (τ.2.2.1 632 0 15)) 629 0 (τ.2.2.1 632 0 16)) 630 0 (τ.2.2.1 632 0 17) := by
      unfold bkS
      have e3 : sA (sA τ 626 0 (τ.2.2.1 626 0)) 627 0 (τ.2.2.1 627 0) = τ := by
        rw [sA_self, sA_self]
      rw [e3]
    rw [e2, f_X12_back_b12, if_pos (show (6 : Int32) ≤ nI 6 from Int32.le_refl _)]
    simp only [bnd_e, kc12, kc13, kc14, kc15, kc16, kc17]
    rfl
  | succ m ih =>
    intro i f τ hi hf
    obtain ⟨f, rfl⟩ : ∃ x, f = x + 1 := ⟨f - 1, by omega⟩
    have hi6 : i < 6 := by omega
    have e6 : (6 : Int32) + nI i = nI (6 + i) := nI_add 6 i
    rw [f_X12_back_b12, if_neg (show ¬ (6 : Int32) ≤ nI i from nI_ge (b := 6) hi6 (by omega)), e6]
    simp only [chk_in hi6 (show 6 ≤ 2000000000 by omega), chk_in (show i < 18 by omega) (show 18 ≤ 2000000000 by omega), chk_in (show 6 + i < 18 by omega) (show 18 ≤ 2000000000 by omega), bnd_e, nI_p1]
    simp only [bnd_e, nI_p1, nI_clamp (show i < 2 ^ 31 by omega), nI_clamp (show 6 + i < 2 ^ 31 by omega)]
    obtain ⟨F, G, h1, h2, h3⟩ := ih (i + 1) f (sA (sA τ 626 0 (upd (τ.2.2.1 626 0) i (τ.2.2.1 632 0 i))) 627 0 (upd (τ.2.2.1 627 0) i (τ.2.2.1 632 0 (6 + i)))) (by omega) (by omega)
    rw [bkS_in] at h1
    refine ⟨F, G, h1, fun j q1 q2 => ?_, fun j hj => ?_⟩
    · by_cases e : j = i
      · subst e
        have h5 := h3 j (by omega)
        refine ⟨h5.1.trans ?_, h5.2.trans ?_⟩
        · show upd (τ.2.2.1 626 0) j (τ.2.2.1 632 0 j) j = _
          rw [pk_us]
        · show upd (τ.2.2.1 627 0) j (τ.2.2.1 632 0 (6 + j)) j = _
          rw [pk_us]
      · exact h2 j (by omega) q2
    · have h5 := h3 j (by omega)
      refine ⟨h5.1.trans ?_, h5.2.trans ?_⟩
      · show upd (τ.2.2.1 626 0) i (τ.2.2.1 632 0 i) j = _
        rw [pk_un (by omega)]
      · show upd (τ.2.2.1 627 0) i (τ.2.2.1 632 0 (6 + i)) j = _
        rw [pk_un (by omega)]
theorem st31 (k : Nat) : Step_31 (Rel k) (Rel (k + 1)) := by
  intro σ τ hr
  obtain ⟨α, ho, hc, hm⟩ := hr
  have hR : Rel (k + 1) σ τ := ⟨α, okA_mono ho, hc, hm⟩
  have i1 := hc.2.2.2.2.2.2.2.2.1
  have i2 := hm.2.2.2.2.2.2.1
  unfold f_X11_back f_X12_back
  rw [i1.1, i2.1]
  cases hI : aIM α with
  | none =>
    rw [tf_f (fun h => h rfl)]
    exact ⟨_, _, _, rfl, rfl, hR⟩
  | some d =>
    rw [tf_t (fun h => (by cases h)), if_neg one_n0, if_neg one_n0]
    have d1 := i1.2 d hI
    have d2 := i2.2 d hI
    obtain ⟨F, G, h1, h2, h3⟩ := back_loop 6 0 256 τ (by omega) (by omega)
    have h1' : f_X12_back_b12 256 τ (0 : Int32) = _ := h1
    rw [become_01, bnd1_e, h1']
    have e : (bcm σ 0 1).1 53 0 = τ.2.2.1 632 0 15 := (show σ.1 53 1 = τ.2.2.1 632 0 15 from d1.2.2.1.trans d2.2.1.symm)
    refine ⟨τ.2.2.1 632 0 15, _, _, congrArg (fun x => some (x, bcm σ 0 1)) e, rfl, uD α d, okA_mono (okA_D ho (ho.2.2.2.2.2.1 d hI)), ?_, ?_⟩
    · exact ⟨hc.1, hc.2.1, cache_cong rfl rfl rfl hc.2.2.1, law_cong rfl (fun _ => rfl) (fun _ => rfl) hc.2.2.2.1, hc.2.2.2.2.1, hc.2.2.2.2.2.1, hc.2.2.2.2.2.2.1, deed_back d1, hc.2.2.2.2.2.2.2.2⟩
    · refine ⟨hm.1, hm.2.1, lawM_cong rfl rfl hm.2.2.1, hm.2.2.2.1, hm.2.2.2.2.1, ⟨d2.1, d2.2.1, d2.2.2.1, d2.2.2.2.1, fun q => ⟨(d2.2.2.2.2 q).1, (d2.2.2.2.2 q).2.1, fun i hi => ⟨(h2 i (Nat.zero_le i) hi).1.trans ((d2.2.2.2.2 q).2.2 i hi).1, (h2 i (Nat.zero_le i) hi).2.trans ((d2.2.2.2.2 q).2.2 i hi).2⟩⟩⟩, hm.2.2.2.2.2.2⟩
