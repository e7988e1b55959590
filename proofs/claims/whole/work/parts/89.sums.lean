/-! 19 sums -/
def cvN (W p : Nat → Nat) : Nat → Nat → Nat
  | 0, _ => 0
  | l + 1, s => cvN W p l s + (if l ≤ s then W (s - l) * p l else 0)
/-- how many ways there are to a sum, by the first k digits -/
def wysN (α : Ab) (it : Nat → Int64) : Nat → Nat → Nat
  | 0, s => if s = 0 then 1 else 0
  | k + 1, s => cvN (wysN α it k) (fun l => ptv α l (it k) 0) 12 s
theorem cv_0 {W p : Nat → Nat} {c : Nat} (h : ∀ s, c < s → W s = 0) : ∀ l s, c + 11 < s → l ≤ 12 → cvN W p l s = 0
  | 0, _, _, _ => rfl
  | l + 1, s, hs, hl => by
    rw [cvN, cv_0 h l s hs (by omega), if_pos (by omega), h (s - l) (by omega), Nat.zero_mul]
theorem wys_0 (α : Ab) (it : Nat → Int64) : ∀ k s, 11 * k < s → wysN α it k s = 0
  | 0, s, h => if_neg (by omega)
  | k + 1, s, h => cv_0 (wys_0 α it k) 12 s (by omega) (Nat.le_refl _)
theorem sums_add (f g : Nat → Nat) : ∀ n, smsN (fun s => f s + g s) n = smsN f n + smsN g n
  | 0 => rfl
  | n + 1 => by rw [smsN, smsN, smsN, sums_add f g n]; omega
theorem sums_zero {f : Nat → Nat} : ∀ {n}, (∀ j, j < n → f j = 0) → smsN f n = 0
  | 0, _ => rfl
  | n + 1, h => by rw [smsN, sums_zero (fun j hj => h j (by omega)), h n (by omega)]
theorem sums_mul (f : Nat → Nat) (c : Nat) : ∀ n, smsN (fun s => f s * c) n = smsN f n * c
  | 0 => (Nat.zero_mul c).symm
  | n + 1 => by rw [smsN, smsN, sums_mul f c n, Nat.add_mul]
theorem sums_shift (g : Nat → Nat) (l : Nat) : ∀ n, smsN (fun s => if l ≤ s then g (s - l) else 0) n = smsN g (n - l)
  | 0 => by rw [Nat.zero_sub]; rfl
  | n + 1 => by
    rw [smsN, sums_shift g l n]
    by_cases h : l ≤ n
    · rw [if_pos h, show n + 1 - l = (n - l) + 1 by omega, smsN]
    · rw [if_neg h, show n + 1 - l = 0 by omega, show n - l = 0 by omega, Nat.add_zero]
theorem sums_le_mono (f : Nat → Nat) {m : Nat} : ∀ {n}, m ≤ n → smsN f m ≤ smsN f n := by
  intro n h
  induction n with
  | zero => rw [show m = 0 by omega]; exact Nat.le_refl _
  | succ n ih =>
    by_cases e : m = n + 1
    · rw [e]; exact Nat.le_refl _
    · have := ih (by omega)
      rw [smsN]
      omega
theorem sums_cv (W p : Nat → Nat) (l n : Nat) : smsN (cvN W p (l + 1)) n = smsN (cvN W p l) n + smsN W (n - l) * p l := by
  have e : cvN W p (l + 1) = fun s => cvN W p l s + (if l ≤ s then W (s - l) * p l else 0) := rfl
  rw [e, sums_add]
  congr 1
  have e2 : (fun s => if l ≤ s then W (s - l) * p l else 0) = (fun s => if l ≤ s then (fun j => W j * p l) (s - l) else 0) := rfl
  rw [e2, sums_shift (fun j => W j * p l) l n, sums_mul]
theorem sums_cv_le (W p : Nat → Nat) (n : Nat) (hp : ∀ l, p l ≤ 100) : ∀ l, smsN (cvN W p l) n ≤ l * (100 * smsN W n)
  | 0 => by
    rw [sums_zero (f := cvN W p 0) (fun j _ => rfl)]
    omega
  | l + 1 => by
    rw [sums_cv, Nat.succ_mul]
    have h1 := sums_cv_le W p n hp l
    have h2 : smsN W (n - l) ≤ smsN W n := sums_le_mono W (by omega)
    have h3 : smsN W (n - l) * p l ≤ smsN W n * 100 := Nat.mul_le_mul h2 (hp l)
    omega
theorem wys_le (α : Ab) (it : Nat → Int64) (n : Nat) (hn : 0 < n) : ∀ k, smsN (wysN α it k) n ≤ 1200 ^ k
  | 0 => by
    have h : ∀ m, smsN (wysN α it 0) (m + 1) = 1 := by
      intro m
      induction m with
      | zero => rfl
      | succ m ih =>
        rw [smsN, ih]
        show 1 + (if m + 1 = 0 then 1 else 0) = 1
        rw [if_neg (by omega)]
    obtain ⟨m, rfl⟩ : ∃ m, n = m + 1 := ⟨n - 1, by omega⟩
    rw [h m]
    exact Nat.le_refl _
  | k + 1 => by
    have h1 := wys_le α it n hn k
    have h2 := sums_cv_le (wysN α it k) (fun l => ptv α l (it k) 0) n (fun l => ptv_le α l (it k) 0) 12
    have e : smsN (wysN α it (k + 1)) n = smsN (cvN (wysN α it k) (fun l => ptv α l (it k) 0) 12) n := rfl
    rw [e, Nat.pow_succ]
    omega
theorem sums_get {f : Nat → Nat} : ∀ {n j}, j < n → f j ≤ smsN f n
  | 0, _, h => absurd h (Nat.not_lt_zero _)
  | n + 1, j, h => by
    rw [smsN]
    by_cases e : j = n
    · rw [e]; omega
    · have := sums_get (f := f) (n := n) (j := j) (by omega)
      omega
/-- how many digits count -/
def dgN (len : Nat) (it : Nat → Int64) : Nat → Nat → Nat
  | 0, i => i
  | m + 1, i => if i < len ∧ (0 ≤ it i ∧ it i ≤ 11) then dgN len it m (i + 1) else i
theorem dg_le (len : Nat) (it : Nat → Int64) : ∀ m i, dgN len it m i ≤ i + m
  | 0, i => Nat.le_refl _
  | m + 1, i => by
    rw [dgN]
    split
    · have := dg_le len it m (i + 1); omega
    · omega
/-! the class -/
def InvF (α : Ab) (W : Nat → Nat) (a : Nat) (σ : St) : Prop := AbsC α σ ∧ (∀ s, s < 45 → σ.2.2.2.1 101 (σ.2.2.2.2 101) s = lN (W s)) ∧ σ.2.1 103 0 = lN a
theorem absC_101 {α : Ab} {σ : St} (h : AbsC α σ) (o : Nat) (v : Nat → Int64) : AbsC α (sL σ 101 o v) := ⟨h.1, h.2.1, h.2.2.1, law_cong rfl (fun _ => rfl) (fun _ => rfl) h.2.2.2.1, h.2.2.2.2⟩
theorem absC_103 {α : Ab} {σ : St} (h : AbsC α σ) (w : Int64) : AbsC α (sJ σ 103 0 w) := ⟨h.1, h.2.1, h.2.2.1, law_cong rfl (fun _ => rfl) (fun _ => rfl) h.2.2.2.1, h.2.2.2.2⟩
theorem absC_R {α : Ab} {σ : St} (h : AbsC α σ) : AbsC α (sR (sR σ 101 (σ.2.2.2.2 102)) 102 (σ.2.2.2.2 101)) := by
  have r := cRef h
  exact ⟨h.1, h.2.1, h.2.2.1, law_cong rfl (fun _ => rfl) (fun _ => rfl) h.2.2.2.1, ⟨r.1, r.2.2.1, r.2.1, fun z => r.2.2.2 z.symm⟩, h.2.2.2.2.2⟩
theorem sL_at (σ : St) (f o : Nat) (v : Nat → Int64) : (sL σ f o v).2.2.2.1 f o = v := if_pos ⟨rfl, rfl⟩
theorem sL_ne (σ : St) {f o x : Nat} (v : Nat → Int64) (h : x ≠ o) : (sL σ f o v).2.2.2.1 f x = σ.2.2.2.1 f x := if_neg (fun z => h z.2)
/-- one LETTER's turn: sums from x on -/
theorem add_in {α : Ab} {W : Nat → Nat} {l p h : Nat} (hl : l < 12) (hp0 : 0 < p) (hp : p ≤ 100) {K : St → Int32 → Int32 → Option St} : ∀ (m x : Nat) (A : Nat → Nat) (a f : Nat) (σ : St), x + m = 45 - l → m < f → AbsC α σ → (∀ s, s < 45 → σ.2.2.2.1 101 (σ.2.2.2.2 101) s = lN (W s)) → (∀ s, s < 45 → σ.2.2.2.1 101 (σ.2.2.2.2 102) s = lN (A s)) → σ.2.1 103 0 = lN a → ∃ (σ' : St) (A' : Nat → Nat), f_X2_lengthen_b35 K f σ (nI h) (nI l) (nI p) (nI x) = K σ' (nI h) (nI (l + 1)) ∧ AbsC α σ' ∧ (∀ s, s < 45 → σ'.2.2.2.1 101 (σ'.2.2.2.2 101) s = lN (W s)) ∧ (∀ s, s < 45 → σ'.2.2.2.1 101 (σ'.2.2.2.2 102) s = lN (A' s)) ∧ (∀ s, A' s = A s + (if x + l ≤ s ∧ s < 45 then W (s - l) * p else 0)) ∧ σ'.2.1 103 0 = lN (a + (smsN W (45 - l) - smsN W x) * p) := by
  intro m
  induction m with
  | zero =>
    intro x A a f σ hx hf hc hW hA ha
    obtain ⟨f, rfl⟩ : ∃ y, f = y + 1 := ⟨f - 1, by omega⟩
    rw [f_X2_lengthen_b35, if_neg (show ¬ nI p = 0 from nI_lit_ne (m := 0) (by omega) (by omega) (by omega)), nI_add, if_pos (show (44 : Int32) < nI (x + l) from nI_lt (a := 44) (by omega) (by omega)), bnd_e, nI_p1]
    refine ⟨σ, A, rfl, hc, hW, hA, fun s => ?_, ?_⟩
    · rw [if_neg (by omega)]; rfl
    · rw [show 45 - l = x by omega, Nat.sub_self, Nat.zero_mul]
      exact ha
  | succ m ih =>
    intro x A a f σ hx hf hc hW hA ha
    obtain ⟨f, rfl⟩ : ∃ y, f = y + 1 := ⟨f - 1, by omega⟩
    obtain ⟨_, r1, r2, r3⟩ := cRef hc
    have c1 : ¬ 2 ≤ σ.2.2.2.2 101 := by omega
    have c2 : ¬ 2 ≤ σ.2.2.2.2 102 := by omega
    rw [f_X2_lengthen_b35, if_neg (show ¬ nI p = 0 from nI_lit_ne (m := 0) (by omega) (by omega) (by omega)), nI_add, if_neg (show ¬ (44 : Int32) < nI (x + l) from fun z => by
      have := (nI_ltI (a := 44) (by omega) (by omega)).mp z
      omega), chk_e c2, chk_in (show x + l < 45 by omega) (by omega), chk_e c1, chk_in (show x < 45 by omega) (by omega), chk_in (show x + l < 45 by omega) (by omega), bnd_e, nI_clamp (show x < 2 ^ 31 by omega), nI_clamp (show x + l < 2 ^ 31 by omega), hW x (by omega), hA (x + l) (by omega), nI_l (show p < 2 ^ 31 by omega), lN_mul, lN_add]
    have c3 : ¬ 2 ≤ (sL σ 101 (σ.2.2.2.2 102) (vp_updL (σ.2.2.2.1 101 (σ.2.2.2.2 102)) (x + l) (lN (A (x + l) + W x * p)))).2.2.2.2 101 := c1
    have hW' : ∀ s, s < 45 → (sL σ 101 (σ.2.2.2.2 102) (vp_updL (σ.2.2.2.1 101 (σ.2.2.2.2 102)) (x + l) (lN (A (x + l) + W x * p)))).2.2.2.1 101 (σ.2.2.2.2 101) s = lN (W s) := fun s hs => by
      rw [sL_ne σ _ (fun z => r3 z)]
      exact hW s hs
    rw [chk_e c3, chk_i2 (show x < 45 by omega) (by omega)]
    have e1 : (sL σ 101 (σ.2.2.2.2 102) (vp_updL (σ.2.2.2.1 101 (σ.2.2.2.2 102)) (x + l) (lN (A (x + l) + W x * p)))).2.2.2.1 101 ((sL σ 101 (σ.2.2.2.2 102) (vp_updL (σ.2.2.2.1 101 (σ.2.2.2.2 102)) (x + l) (lN (A (x + l) + W x * p)))).2.2.2.2 101) x = lN (W x) := hW' x (by omega)
    have e2 : (sL σ 101 (σ.2.2.2.2 102) (vp_updL (σ.2.2.2.1 101 (σ.2.2.2.2 102)) (x + l) (lN (A (x + l) + W x * p)))).2.1 103 0 = lN a := ha
    rw [e1, e2, lN_mul, lN_add, bnd_e, bnd_e, nI_p1]
    obtain ⟨σ', A', q1, q2, q3, q4, q5, q6⟩ := ih (x + 1) (fun s => if s = x + l then A (x + l) + W x * p else A s) (a + W x * p) f (sJ (sL σ 101 (σ.2.2.2.2 102) (vp_updL (σ.2.2.2.1 101 (σ.2.2.2.2 102)) (x + l) (lN (A (x + l) + W x * p)))) 103 0 (lN (a + W x * p))) (by omega) (by omega) (absC_103 (absC_101 hc _ _) _) hW' (fun s hs => by
      show (sL σ 101 (σ.2.2.2.2 102) (vp_updL (σ.2.2.2.1 101 (σ.2.2.2.2 102)) (x + l) (lN (A (x + l) + W x * p)))).2.2.2.1 101 (σ.2.2.2.2 102) s = lN (if s = x + l then A (x + l) + W x * p else A s)
      rw [sL_at]
      by_cases e : s = x + l
      · rw [if_pos e, e, pk_uLs]
      · rw [if_neg e, pk_uLn e]; exact hA s hs) rfl
    refine ⟨σ', A', q1, q2, q3, q4, fun s => ?_, ?_⟩
    · rw [q5 s]
      by_cases e : s = x + l
      · rw [if_pos e, if_neg (by omega), if_pos (by omega), e, show x + l - l = x by omega]
        rfl
      · rw [if_neg e]
        by_cases e2 : x + l ≤ s ∧ s < 45
        · rw [if_pos (by omega), if_pos e2]
        · rw [if_neg (by omega), if_neg e2]
    · rw [q6, smsN]
      have h2 : smsN W (x + 1) ≤ smsN W (45 - l) := sums_le_mono W (by omega)
      rw [smsN] at h2
      rw [Nat.add_assoc, ← Nat.add_mul, show W x + (smsN W (45 - l) - (smsN W x + W x)) = smsN W (45 - l) - smsN W x by omega]
theorem len_loop {k : Nat} {α : Ab} (ho : OkA k α) {W : Nat → Nat} {h : Nat} (hh : h < 12) : ∀ (m l : Nat) (A : Nat → Nat) (f : Nat) (σ : St), l + m = 12 → m < f → AbsC α σ → (∀ s, s < 45 → σ.2.2.2.1 101 (σ.2.2.2.2 101) s = lN (W s)) → (∀ s, s < 45 → σ.2.2.2.1 101 (σ.2.2.2.2 102) s = lN (A s)) → (∀ s, s < 45 → A s = cvN W (fun l => ptN α l h 0) l s) → σ.2.1 103 0 = lN (smsN (cvN W (fun l => ptN α l h 0) l) 45) → ∃ σ', f_X2_lengthen_b15 f σ (nI h) (nI l) = some σ' ∧ InvF α (cvN W (fun l => ptN α l h 0) 12) (smsN (cvN W (fun l => ptN α l h 0) 12) 45) σ' := by
  intro m
  induction m with
  | zero =>
    intro l A f σ hl hf hc hW hA hA2 ha
    obtain ⟨f, rfl⟩ : ∃ y, f = y + 1 := ⟨f - 1, by omega⟩
    have e : l = 12 := by omega
    subst e
    obtain ⟨_, r1, r2, r3⟩ := cRef hc
    rw [f_X2_lengthen_b15, if_pos (show (12 : Int32) ≤ nI 12 from Int32.le_refl _), chk_e (show ¬ 2 ≤ σ.2.2.2.2 101 by omega), chk_e (show ¬ 2 ≤ σ.2.2.2.2 102 by omega), bnd_e]
    exact ⟨_, rfl, absC_R hc, fun s hs => (hA s hs).trans (congrArg lN (hA2 s hs)), ha⟩
  | succ m ih =>
    intro l A f σ hl hf hc hW hA hA2 ha
    obtain ⟨f, rfl⟩ : ∃ y, f = y + 1 := ⟨f - 1, by omega⟩
    have hl12 : l < 12 := by omega
    obtain ⟨σ1, x1, x2, x3⟩ := parts0_C ho hc hl12 hh
    have hp := ptN α l h 0
    have hW1 : ∀ s, s < 45 → σ1.2.2.2.1 101 (σ1.2.2.2.2 101) s = lN (W s) := fun s hs => by rw [x2.2.2.1]; exact hW s hs
    have hA1 : ∀ s, s < 45 → σ1.2.2.2.1 101 (σ1.2.2.2.2 102) s = lN (A s) := fun s hs => by rw [x2.2.2.1]; exact hA s hs
    have ha1 : σ1.2.1 103 0 = lN (smsN (cvN W (fun l => ptN α l h 0) l) 45) := by rw [x2.2.1]; exact ha
    rw [f_X2_lengthen_b15, if_neg (show ¬ (12 : Int32) ≤ nI l from nI_ge (b := 12) hl12 (by omega)), x1, bnd2_e]
    by_cases hp0 : ptN α l h 0 = 0
    · rw [f_X2_lengthen_b35, if_pos (show nI (ptN α l h 0) = 0 by rw [hp0]; rfl), bnd_e, nI_p1]
      have e1 : ∀ s, cvN W (fun l => ptN α l h 0) (l + 1) s = cvN W (fun l => ptN α l h 0) l s := by
        intro s
        rw [cvN, hp0, Nat.mul_zero, ite_self, Nat.add_zero]
      have e2 : cvN W (fun l => ptN α l h 0) (l + 1) = cvN W (fun l => ptN α l h 0) l := funext e1
      refine ih (l + 1) A f σ1 (by omega) (by omega) x3 hW1 hA1 (fun s hs => ?_) ?_
      · rw [e1]; exact hA2 s hs
      · rw [e2]; exact ha1
    · obtain ⟨σ2, A', q1, q2, q3, q4, q5, q6⟩ := add_in (h := h) hl12 (Nat.pos_of_ne_zero hp0) (pt_le α l 0 hh) (K := f_X2_lengthen_b15 f) (45 - l) 0 A _ 256 σ1 (by omega) (by omega) x3 hW1 hA1 ha1
      have q1' : f_X2_lengthen_b35 (f_X2_lengthen_b15 f) 256 σ1 (nI h) (nI l) (nI (ptN α l h 0)) (0 : Int32) = _ := q1
      rw [q1']
      refine ih (l + 1) A' f σ2 (by omega) (by omega) q2 q3 q4 (fun s hs => ?_) ?_
      · rw [q5 s, cvN, hA2 s hs]
        by_cases e : l ≤ s
        · rw [if_pos e, if_pos (by omega)]
        · rw [if_neg e, if_neg (by omega)]
      · rw [q6, sums_cv]
        rfl
theorem lengthen_C {k : Nat} {α : Ab} {σ : St} (ho : OkA k α) {W : Nat → Nat} {a h : Nat} (hI : InvF α W a σ) (hh : h < 12) : ∃ σ', f_X2_lengthen σ (nI h) = some σ' ∧ InvF α (cvN W (fun l => ptN α l h 0) 12) (smsN (cvN W (fun l => ptN α l h 0) 12) 45) σ' := by
  obtain ⟨hc, hW, _⟩ := hI
  obtain ⟨_, r1, r2, r3⟩ := cRef hc
  unfold f_X2_lengthen
  rw [chk_e (show ¬ 2 ≤ σ.2.2.2.2 102 by omega), bnd_e]
  refine len_loop ho hh 12 0 (fun _ => 0) 256 _ (by omega) (by omega) (absC_103 (absC_101 hc _ _) _) (fun s hs => ?_) (fun s hs => ?_) (fun s hs => rfl) ?_
  · show (sL σ 101 (σ.2.2.2.2 102) (fillL (σ.2.2.2.1 101 (σ.2.2.2.2 102)) 45 0)).2.2.2.1 101 (σ.2.2.2.2 101) s = lN (W s)
    rw [sL_ne σ _ (fun z => r3 z)]
    exact hW s hs
  · show (sL σ 101 (σ.2.2.2.2 102) (fillL (σ.2.2.2.1 101 (σ.2.2.2.2 102)) 45 0)).2.2.2.1 101 (σ.2.2.2.2 102) s = lN 0
    rw [sL_at]
    exact if_pos hs
  · rw [sums_zero (f := cvN W (fun l => ptN α l h 0) 0) (fun j _ => rfl)]
    rfl
theorem pt_ptv {α : Ab} {v : Int64} (h : 0 ≤ v ∧ v ≤ 11) : (fun l => ptN α l v.toInt.toNat 0) = fun l => ptv α l v 0 := by
  funext l
  exact (if_pos h).symm
theorem figs_loop {k : Nat} {α : Ab} (ho : OkA k α) {d : Nat} (hd : d < 6) (ht : 51 ≤ (aSH α d).1) : ∀ m i f σ, i + m = 4 → m < f → InvF α (wysN α (aSH α d).2.2 i) (smsN (wysN α (aSH α d).2.2 i) 45) σ → ∃ σ', f_X2_weigh_b22 f σ d (nI i) = some σ' ∧ InvF α (wysN α (aSH α d).2.2 (dgN (aSH α d).2.1 (aSH α d).2.2 m i)) (smsN (wysN α (aSH α d).2.2 (dgN (aSH α d).2.1 (aSH α d).2.2 m i)) 45) σ' := by
  intro m
  induction m with
  | zero =>
    intro i f σ hi hf hI
    obtain ⟨f, rfl⟩ : ∃ y, f = y + 1 := ⟨f - 1, by omega⟩
    rw [f_X2_weigh_b22, if_pos (show (4 : Int32) ≤ nI i from nI_le (a := 4) (by omega) (by omega))]
    exact ⟨σ, rfl, hI⟩
  | succ m ih =>
    intro i f σ hi hf hI
    obtain ⟨f, rfl⟩ : ∃ y, f = y + 1 := ⟨f - 1, by omega⟩
    obtain ⟨r1, r2, r3⟩ := row_C ho hI.1 hd ht
    rw [f_X2_weigh_b22, if_neg (show ¬ (4 : Int32) ≤ nI i from nI_ge (b := 4) (by omega) (by omega)), r2, dgN]
    by_cases e1 : i < (aSH α d).2.1
    · rw [if_neg (nI_ge e1 (by omega)), letterAt_C ho hI.1 hd ht (show i < 2 ^ 31 by omega), bnd2_e]
      by_cases e2 : 0 ≤ (aSH α d).2.2 i ∧ (aSH α d).2.2 i ≤ 11
      · obtain ⟨g1, _, g3⟩ := la_of (it := (aSH α d).2.2) e1 e2
        obtain ⟨σ1, x1, x2⟩ := lengthen_C ho hI g3
        rw [g1, if_pos (nI_0le (by omega)), x1, bnd1_e, bnd_e, nI_p1, if_pos ⟨e1, e2⟩]
        have e3 : cvN (wysN α (aSH α d).2.2 i) (fun l => ptN α l ((aSH α d).2.2 i).toInt.toNat 0) 12 = wysN α (aSH α d).2.2 (i + 1) := by
          rw [pt_ptv e2]
          rfl
        rw [e3] at x2
        exact ih (i + 1) f σ1 (by omega) (by omega) x2
      · have g1 : laN (aSH α d).2.1 (aSH α d).2.2 i = -1 := by
          unfold laN lvN
          rw [if_pos e1, if_neg e2]
        rw [g1, if_neg neg1_nle, if_neg (fun z => e2 z.2)]
        exact ⟨σ, rfl, hI⟩
    · rw [if_pos (nI_le (Nat.not_lt.mp e1) (by omega)), if_neg (fun z => e1 z.1)]
      exact ⟨σ, rfl, hI⟩
theorem figs_C {k : Nat} {α : Ab} {σ : St} (ho : OkA k α) (hc : AbsC α σ) {d : Nat} (hd : d < 6) (ht : 51 ≤ (aSH α d).1) : ∃ σ', f_X2_weigh σ d = some σ' ∧ InvF α (wysN α (aSH α d).2.2 (dgN (aSH α d).2.1 (aSH α d).2.2 4 0)) (smsN (wysN α (aSH α d).2.2 (dgN (aSH α d).2.1 (aSH α d).2.2 4 0)) 45) σ' := by
  obtain ⟨_, r1, r2, r3⟩ := cRef hc
  unfold f_X2_weigh
  rw [chk_e (show ¬ 2 ≤ σ.2.2.2.2 101 by omega), bnd_e, chk_e (show ¬ 2 ≤ (sL σ 101 (σ.2.2.2.2 101) (fillL (σ.2.2.2.1 101 (σ.2.2.2.2 101)) 45 0)).2.2.2.2 101 by show ¬ 2 ≤ σ.2.2.2.2 101; omega), bnd_e]
  have h1 : smsN (wysN α (aSH α d).2.2 0) 45 = 1 := by
    have h : ∀ m, smsN (wysN α (aSH α d).2.2 0) (m + 1) = 1 := by
      intro m
      induction m with
      | zero => rfl
      | succ m ih =>
        rw [smsN, ih]
        show 1 + (if m + 1 = 0 then 1 else 0) = 1
        rw [if_neg (by omega)]
    exact h 44
  refine figs_loop ho hd ht 4 0 256 _ (by omega) (by omega) ⟨absC_103 (absC_101 (absC_101 hc _ _) _ _) _, fun s hs => ?_, ?_⟩
  · show (sL (sL σ 101 (σ.2.2.2.2 101) (fillL (σ.2.2.2.1 101 (σ.2.2.2.2 101)) 45 0)) 101 (σ.2.2.2.2 101) (vp_updL ((sL σ 101 (σ.2.2.2.2 101) (fillL (σ.2.2.2.1 101 (σ.2.2.2.2 101)) 45 0)).2.2.2.1 101 (σ.2.2.2.2 101)) (0 : Int32).toNatClampNeg 1)).2.2.2.1 101 (σ.2.2.2.2 101) s = lN (if s = 0 then 1 else 0)
    rw [sL_at, sL_at, kc0]
    by_cases e : s = 0
    · rw [if_pos e, e, pk_uLs]; rfl
    · rw [if_neg e, pk_uLn e]
      exact if_pos hs
  · rw [h1]
    rfl
/-! the model -/
def InvS (α : Ab) (W B : Nat → Nat) (τ : St) : Prop := AbsM α τ ∧ ∀ s, s < 60 → τ.2.2.2.1 621 0 s = lN (W s) ∧ τ.2.2.2.1 621 0 (60 + s) = lN (B s)
theorem absM_621 {α : Ab} {τ : St} (h : AbsM α τ) (v : Nat → Int64) : AbsM α (sL τ 621 0 v) := ⟨h.1, h.2.1, lawM_cong rfl rfl h.2.2.1, h.2.2.2⟩
theorem figsOf_M {k : Nat} {α : Ab} {τ : St} (ho : OkA k α) (hm : AbsM α τ) {d : Nat} (hd : d < 6) (ht : 51 ≤ (aSH α d).1) (h60 : (aSH α d).2.1 ≤ 60) : ∀ m i f, i + m = 4 → m < f → f_X12_figuresOf_b2 f τ (nI d) (nI i) = some (nI (dgN (aSH α d).2.1 (aSH α d).2.2 m i), τ) := by
  intro m
  induction m with
  | zero =>
    intro i f hi hf
    obtain ⟨f, rfl⟩ : ∃ y, f = y + 1 := ⟨f - 1, by omega⟩
    rw [f_X12_figuresOf_b2, if_pos (show (4 : Int32) ≤ nI i from nI_le (a := 4) (by omega) (by omega))]
    rfl
  | succ m ih =>
    intro i f hi hf
    obtain ⟨f, rfl⟩ : ∃ y, f = y + 1 := ⟨f - 1, by omega⟩
    rw [f_X12_figuresOf_b2, if_neg (show ¬ (4 : Int32) ≤ nI i from nI_ge (b := 4) (by omega) (by omega)), chk_in hd (by omega), nI_clamp (by omega), (row_M hm hd ht).1, dgN]
    by_cases e1 : i < (aSH α d).2.1
    · rw [if_neg (nI_ge e1 (by omega)), itemAt_M hm hd ht e1 h60, bnd2_e, e_X12_isLetter, bnd1_e]
      by_cases e2 : 0 ≤ (aSH α d).2.2 i ∧ (aSH α d).2.2 i ≤ 11
      · rw [tf_t e2, if_neg one_n0, bnd_e, nI_p1, ih (i + 1) f (by omega) (by omega), if_pos ⟨e1, e2⟩]
      · rw [tf_f e2, if_pos rfl, if_neg (fun z => e2 z.2)]
    · rw [if_pos (nI_le (Nat.not_lt.mp e1) (by omega)), if_neg (fun z => e1 z.1)]
theorem ix6060 (a b : Nat) : (60 : Int32) + nI a + nI b = nI (60 + a + b) := by
  show nI 60 + nI a + nI b = _
  rw [nI_add, nI_add]
theorem ix60a (a : Nat) : (60 : Int32) + nI a = nI (60 + a) := nI_add 60 a
theorem in141 {α : Ab} {W : Nat → Nat} {l p : Nat} (hl : l < 12) (hp : p ≤ 100) {x1 x2 x3 x4 x5 : Int32} {K1 : St → Int32 → Int32 → Int32 → Int32 → Int32 → Option (Int64 × St)} {K2 : St → Int32 → Int32 → Int32 → Int32 → Int32 → Int32 → Option (Int64 × St)} : ∀ (m x : Nat) (B : Nat → Nat) (f : Nat) (τ : St), x + m = 60 - l → m < f → InvS α W B τ → ∃ (τ' : St) (B' : Nat → Nat), f_X12_sums_b141 K1 K2 f τ x1 x2 x3 x4 x5 (nI l) (nI p) (nI x) = K2 τ' x1 x2 x3 x4 x5 (nI (l + 1)) ∧ InvS α W B' τ' ∧ ∀ s, B' s = B s + (if x + l ≤ s ∧ s < 60 then W (s - l) * p else 0) := by
  intro m
  induction m with
  | zero =>
    intro x B f τ hx hf hI
    obtain ⟨f, rfl⟩ : ∃ y, f = y + 1 := ⟨f - 1, by omega⟩
    rw [f_X12_sums_b141, nI_add, if_pos (show (60 : Int32) ≤ nI (x + l) from nI_le (a := 60) (by omega) (by omega)), bnd_e, nI_p1]
    exact ⟨τ, B, rfl, hI, fun s => by rw [if_neg (by omega)]; rfl⟩
  | succ m ih =>
    intro x B f τ hx hf hI
    obtain ⟨f, rfl⟩ : ∃ y, f = y + 1 := ⟨f - 1, by omega⟩
    rw [f_X12_sums_b141, nI_add, if_neg (show ¬ (60 : Int32) ≤ nI (x + l) from nI_ge (b := 60) (by omega) (by omega)), ix6060, chk_in (show 60 + x + l < 120 by omega) (by omega), chk_in (show x < 120 by omega) (by omega), chk_in (show 60 + x + l < 120 by omega) (by omega), nI_clamp (show x < 2 ^ 31 by omega), nI_clamp (show 60 + x + l < 2 ^ 31 by omega), show 60 + x + l = 60 + (x + l) by omega, (hI.2 x (by omega)).1, (hI.2 (x + l) (by omega)).2, nI_l (show p < 2 ^ 31 by omega), lN_mul, lN_add, bnd_e, bnd_e, nI_p1]
    have hI' : InvS α W (fun s => if s = x + l then B (x + l) + W x * p else B s) (sL τ 621 0 (vp_updL (τ.2.2.2.1 621 0) (60 + (x + l)) (lN (B (x + l) + W x * p)))) := by
      refine ⟨absM_621 hI.1 _, fun s hs => ⟨?_, ?_⟩⟩
      · exact (pk_uLn (by omega)).trans (hI.2 s hs).1
      · show vp_updL (τ.2.2.2.1 621 0) (60 + (x + l)) (lN (B (x + l) + W x * p)) (60 + s) = lN (if s = x + l then B (x + l) + W x * p else B s)
        by_cases e : s = x + l
        · rw [if_pos e, e, pk_uLs]
        · rw [if_neg e, pk_uLn (by omega)]; exact (hI.2 s hs).2
    obtain ⟨τ', B', q1, q2, q3⟩ := ih (x + 1) (fun s => if s = x + l then B (x + l) + W x * p else B s) f (sL τ 621 0 (vp_updL (τ.2.2.2.1 621 0) (60 + (x + l)) (lN (B (x + l) + W x * p)))) (by omega) (by omega) hI'
    refine ⟨τ', B', q1, q2, fun s => ?_⟩
    rw [q3 s]
    by_cases e : s = x + l
    · rw [if_pos e, if_neg (by omega), if_pos (by omega), e, show x + l - l = x by omega]
      rfl
    · rw [if_neg e]
      by_cases e2 : x + l ≤ s ∧ s < 60
      · rw [if_pos (by omega), if_pos e2]
      · rw [if_neg (by omega), if_neg e2]
theorem copy193 {α : Ab} {W B : Nat → Nat} {x1 x2 x3 x4 : Int32} {j : Nat} {K1 : St → Int32 → Int32 → Int32 → Int32 → Int32 → Option (Int64 × St)} : ∀ (m x f : Nat) (τ : St), x + m = 60 → m < f → AbsM α τ → (∀ s, s < 60 → τ.2.2.2.1 621 0 (60 + s) = lN (B s)) → (∀ s, s < x → τ.2.2.2.1 621 0 s = lN (B s)) → ∃ (τ' : St), f_X12_sums_b193 K1 f τ x1 x2 x3 x4 (nI j) (nI x) = K1 τ' x1 x2 x3 x4 (nI (j + 1)) ∧ InvS α B B τ' := by
  intro m
  induction m with
  | zero =>
    intro x f τ hx hf hm h1 h2
    obtain ⟨f, rfl⟩ : ∃ y, f = y + 1 := ⟨f - 1, by omega⟩
    rw [f_X12_sums_b193, if_pos (show (60 : Int32) ≤ nI x from nI_le (a := 60) (by omega) (by omega)), bnd_e, nI_p1]
    exact ⟨τ, rfl, hm, fun s hs => ⟨h2 s (by omega), h1 s hs⟩⟩
  | succ m ih =>
    intro x f τ hx hf hm h1 h2
    obtain ⟨f, rfl⟩ : ∃ y, f = y + 1 := ⟨f - 1, by omega⟩
    rw [f_X12_sums_b193, if_neg (show ¬ (60 : Int32) ≤ nI x from nI_ge (b := 60) (by omega) (by omega)), ix60a, chk_in (show 60 + x < 120 by omega) (by omega), chk_in (show x < 120 by omega) (by omega), nI_clamp (show x < 2 ^ 31 by omega), nI_clamp (show 60 + x < 2 ^ 31 by omega), h1 x (by omega), bnd_e, bnd_e, nI_p1]
    refine ih (x + 1) f _ (by omega) (by omega) (absM_621 hm _) (fun s hs => (pk_uLn (by omega)).trans (h1 s hs)) (fun s hs => ?_)
    show vp_updL (τ.2.2.2.1 621 0) x (lN (B x)) s = lN (B s)
    by_cases e : s = x
    · rw [e, pk_uLs]
    · rw [pk_uLn e]; exact h2 s (by omega)
theorem clear88 {α : Ab} {W : Nat → Nat} {x1 x2 x3 x4 x5 : Int32} {K1 : St → Int32 → Int32 → Int32 → Int32 → Int32 → Option (Int64 × St)} : ∀ (m x f : Nat) (τ : St), x + m = 60 → m < f → AbsM α τ → (∀ s, s < 60 → τ.2.2.2.1 621 0 s = lN (W s)) → (∀ s, s < x → τ.2.2.2.1 621 0 (60 + s) = lN 0) → ∃ (τ' : St), f_X12_sums_b88 K1 f τ x1 x2 x3 x4 x5 (nI x) = f_X12_sums_b115 K1 256 τ' x1 x2 x3 x4 x5 (0 : Int32) ∧ InvS α W (fun _ => 0) τ' := by
  intro m
  induction m with
  | zero =>
    intro x f τ hx hf hm h1 h2
    obtain ⟨f, rfl⟩ : ∃ y, f = y + 1 := ⟨f - 1, by omega⟩
    rw [f_X12_sums_b88, if_pos (show (60 : Int32) ≤ nI x from nI_le (a := 60) (by omega) (by omega))]
    exact ⟨τ, rfl, hm, fun s hs => ⟨h1 s hs, h2 s (by omega)⟩⟩
  | succ m ih =>
    intro x f τ hx hf hm h1 h2
    obtain ⟨f, rfl⟩ : ∃ y, f = y + 1 := ⟨f - 1, by omega⟩
    rw [f_X12_sums_b88, if_neg (show ¬ (60 : Int32) ≤ nI x from nI_ge (b := 60) (by omega) (by omega)), ix60a, chk_in (show 60 + x < 120 by omega) (by omega), nI_clamp (show 60 + x < 2 ^ 31 by omega), bnd_e, bnd_e, nI_p1]
    refine ih (x + 1) f _ (by omega) (by omega) (absM_621 hm _) (fun s hs => (pk_uLn (by omega)).trans (h1 s hs)) (fun s hs => ?_)
    show vp_updL (τ.2.2.2.1 621 0) (60 + x) 0 (60 + s) = lN 0
    by_cases e : s = x
    · rw [e, pk_uLs]; rfl
    · rw [pk_uLn (by omega)]; exact h2 s (by omega)
theorem let115 {k : Nat} {α : Ab} (ho : OkA k α) {d j : Nat} (hd : d < 6) (ht : 51 ≤ (aSH α d).1) (h60 : (aSH α d).2.1 ≤ 60) (hj : j < (aSH α d).2.1) {W : Nat → Nat} {x2 x3 x4 : Int32} {K1 : St → Int32 → Int32 → Int32 → Int32 → Int32 → Option (Int64 × St)} : ∀ (m l : Nat) (B : Nat → Nat) (f : Nat) (τ : St), l + m = 12 → m < f → InvS α W B τ → (∀ s, s < 60 → B s = cvN W (fun l => ptv α l ((aSH α d).2.2 j) 0) l s) → ∃ (τ' : St), f_X12_sums_b115 K1 f τ (nI d) x2 x3 x4 (nI j) (nI l) = K1 τ' (nI d) x2 x3 x4 (nI (j + 1)) ∧ InvS α (cvN W (fun l => ptv α l ((aSH α d).2.2 j) 0) 12) (cvN W (fun l => ptv α l ((aSH α d).2.2 j) 0) 12) τ' := by
  intro m
  induction m with
  | zero =>
    intro l B f τ hl hf hI hB
    obtain ⟨f, rfl⟩ : ∃ y, f = y + 1 := ⟨f - 1, by omega⟩
    have e : l = 12 := by omega
    subst e
    rw [f_X12_sums_b115, if_pos (show (12 : Int32) ≤ nI 12 from Int32.le_refl _)]
    exact copy193 (W := W) (B := cvN W (fun l => ptv α l ((aSH α d).2.2 j) 0) 12) 60 0 256 τ (by omega) (by omega) hI.1 (fun s hs => (hI.2 s hs).2.trans (congrArg lN (hB s hs))) (fun s hs => absurd hs (Nat.not_lt_zero s))
  | succ m ih =>
    intro l B f τ hl hf hI hB
    obtain ⟨f, rfl⟩ : ∃ y, f = y + 1 := ⟨f - 1, by omega⟩
    have hl12 : l < 12 := by omega
    obtain ⟨τ1, y1, y2, y3⟩ := partL_M ho hI.1 hl12 ((aSH α d).2.2 j)
    have hI1 : InvS α W B τ1 := ⟨y3, fun s hs => by rw [y2.2.2.2]; exact hI.2 s hs⟩
    rw [f_X12_sums_b115, if_neg (show ¬ (12 : Int32) ≤ nI l from nI_ge (b := 12) hl12 (by omega)), itemAt_M hI.1 hd ht hj h60, bnd2_e, y1, bnd2_e]
    obtain ⟨τ2, B', q1, q2, q3⟩ := in141 (x1 := nI d) (x2 := x2) (x3 := x3) (x4 := x4) (x5 := nI j) hl12 (ptv_le α l ((aSH α d).2.2 j) 0) (K1 := K1) (K2 := f_X12_sums_b115 K1 f) (60 - l) 0 B 256 τ1 (by omega) (by omega) hI1
    have q1' : f_X12_sums_b141 K1 (f_X12_sums_b115 K1 f) 256 τ1 (nI d) x2 x3 x4 (nI j) (nI l) (nI (ptv α l ((aSH α d).2.2 j) 0)) (0 : Int32) = _ := q1
    rw [q1']
    refine ih (l + 1) B' f τ2 (by omega) (by omega) q2 (fun s hs => ?_)
    rw [q3 s, cvN, hB s hs]
    by_cases e : l ≤ s
    · rw [if_pos e, if_pos (by omega)]
    · rw [if_neg e, if_neg (by omega)]
theorem fin235 {W : Nat → Nat} {τ : St} (hW : ∀ s, s < 60 → τ.2.2.2.1 621 0 s = lN (W s)) {x w : Nat} (hx : x < 45) (hb : smsN W 60 < 2 ^ 62) : ∀ (m s f : Nat), s + m = 60 → m < f → f_X12_sums_b235 f τ (nI x) (nI w) (lN (smsN W s)) (nI s) = if smsN W 60 = 0 then some (-2, τ) else bnd1 (f_X12_partOf (lN (W x)) (lN (smsN W 60)) (nI w)) (fun r => some (r, τ)) := by
  intro m
  induction m with
  | zero =>
    intro s f hs hf
    obtain ⟨f, rfl⟩ : ∃ y, f = y + 1 := ⟨f - 1, by omega⟩
    have e : s = 60 := by omega
    subst e
    rw [f_X12_sums_b235, if_pos (show (60 : Int32) ≤ nI 60 from Int32.le_refl _), chk_in (show x < 120 by omega) (by omega), nI_clamp (by omega), hW x (by omega)]
    by_cases h0 : smsN W 60 = 0
    · rw [if_pos ((lN_z (by omega)).mpr h0), if_pos h0]
    · rw [if_neg (fun z => h0 ((lN_z (by omega)).mp z)), if_neg h0]
  | succ m ih =>
    intro s f hs hf
    obtain ⟨f, rfl⟩ : ∃ y, f = y + 1 := ⟨f - 1, by omega⟩
    rw [f_X12_sums_b235, if_neg (show ¬ (60 : Int32) ≤ nI s from nI_ge (b := 60) (by omega) (by omega)), chk_in (show s < 120 by omega) (by omega), nI_clamp (by omega), hW s (by omega), lN_add, bnd_e, bnd_e, nI_p1]
    exact ih (s + 1) f (by omega) (by omega)
theorem sum_cut (α : Ab) (it : Nat → Int64) {n : Nat} (hn : n ≤ 4) : smsN (wysN α it n) 60 = smsN (wysN α it n) 45 := by
  have h : ∀ m, smsN (wysN α it n) (45 + m) = smsN (wysN α it n) 45 := by
    intro m
    induction m with
    | zero => rfl
    | succ m ih =>
      rw [show 45 + (m + 1) = (45 + m) + 1 by omega, smsN, ih, wys_0 α it n (45 + m) (by omega)]
      rfl
  exact h 15
theorem pow1200 {n : Nat} (hn : n ≤ 4) : 1200 ^ n ≤ 2073600000000 := Nat.pow_le_pow_right (n := 1200) (by decide) hn
theorem loop78 {k : Nat} {α : Ab} (ho : OkA k α) {d n x w : Nat} (hd : d < 6) (ht : 51 ≤ (aSH α d).1) (h60 : (aSH α d).2.1 ≤ 60) (hn : n ≤ 4) (hn2 : n ≤ (aSH α d).2.1) (hx : x < 45) : ∀ (m i f : Nat) (τ : St), i + m = n → m < f → AbsM α τ → (∀ s, s < 60 → τ.2.2.2.1 621 0 s = lN (wysN α (aSH α d).2.2 i s)) → ∃ τ', f_X12_sums_b78 f τ (nI d) (nI x) (nI w) (nI n) (nI i) = (if smsN (wysN α (aSH α d).2.2 n) 60 = 0 then some (-2, τ') else bnd1 (f_X12_partOf (lN (wysN α (aSH α d).2.2 n x)) (lN (smsN (wysN α (aSH α d).2.2 n) 60)) (nI w)) (fun r => some (r, τ'))) ∧ AbsM α τ' := by
  have hb1 := wys_le α (aSH α d).2.2 45 (by omega) n
  have hb2 := pow1200 hn
  have hb3 := sum_cut α (aSH α d).2.2 hn
  intro m
  induction m with
  | zero =>
    intro i f τ hi hf hm hW
    obtain ⟨f, rfl⟩ : ∃ y, f = y + 1 := ⟨f - 1, by omega⟩
    have e : i = n := by omega
    subst e
    refine ⟨τ, ?_, hm⟩
    rw [f_X12_sums_b78, if_pos (nI_le (Nat.le_refl _) (by omega))]
    have hg : ∀ (m s f : Nat), s + m = 60 → m < f → f_X12_sums_b235 f τ (nI x) (nI w) (lN (smsN (wysN α (aSH α d).2.2 i) s)) (nI s) = if smsN (wysN α (aSH α d).2.2 i) 60 = 0 then some (-2, τ) else bnd1 (f_X12_partOf (lN (wysN α (aSH α d).2.2 i x)) (lN (smsN (wysN α (aSH α d).2.2 i) 60)) (nI w)) (fun r => some (r, τ)) := fin235 hW hx (by omega)
    exact hg 60 0 256 (by omega) (by omega)
  | succ m ih =>
    intro i f τ hi hf hm hW
    obtain ⟨f, rfl⟩ : ∃ y, f = y + 1 := ⟨f - 1, by omega⟩
    rw [f_X12_sums_b78, if_neg (nI_ge (show i < n by omega) (by omega))]
    obtain ⟨τ1, a1, a2⟩ := clear88 (x1 := nI d) (x2 := nI x) (x3 := nI w) (x4 := nI n) (x5 := nI i) (W := wysN α (aSH α d).2.2 i) (K1 := f_X12_sums_b78 f) 60 0 256 τ (by omega) (by omega) hm hW (fun s hs => absurd hs (Nat.not_lt_zero s))
    have a1' : f_X12_sums_b88 (f_X12_sums_b78 f) 256 τ (nI d) (nI x) (nI w) (nI n) (nI i) (0 : Int32) = _ := a1
    obtain ⟨τ2, b1, b2⟩ := let115 ho hd ht h60 (show i < (aSH α d).2.1 by omega) (x2 := nI x) (x3 := nI w) (x4 := nI n) (K1 := f_X12_sums_b78 f) 12 0 (fun _ => 0) 256 τ1 (by omega) (by omega) a2 (fun s hs => rfl)
    have b1' : f_X12_sums_b115 (f_X12_sums_b78 f) 256 τ1 (nI d) (nI x) (nI w) (nI n) (nI i) (0 : Int32) = _ := b1
    rw [a1', b1']
    exact ih (i + 1) f τ2 (by omega) (by omega) b2.1 (fun s hs => (b2.2 s hs).1)
theorem init45 {α : Ab} {x1 x2 x3 x4 : Int32} : ∀ (m i f : Nat) (τ : St), i + m = 120 → m < f → AbsM α τ → (∀ s, s < i → τ.2.2.2.1 621 0 s = lN (if s = 0 then 1 else 0)) → ∃ τ', f_X12_sums_b45 f τ x1 x2 x3 x4 (nI i) = f_X12_sums_b78 256 τ' x1 x2 x3 x4 (0 : Int32) ∧ AbsM α τ' ∧ ∀ s, s < 120 → τ'.2.2.2.1 621 0 s = lN (if s = 0 then 1 else 0) := by
  intro m
  induction m with
  | zero =>
    intro i f τ hi hf hm h
    obtain ⟨f, rfl⟩ : ∃ y, f = y + 1 := ⟨f - 1, by omega⟩
    rw [f_X12_sums_b45, if_pos (show (120 : Int32) ≤ nI i from nI_le (a := 120) (by omega) (by omega))]
    exact ⟨τ, rfl, hm, fun s hs => h s (by omega)⟩
  | succ m ih =>
    intro i f τ hi hf hm h
    obtain ⟨f, rfl⟩ : ∃ y, f = y + 1 := ⟨f - 1, by omega⟩
    have e0 : (if nI i = 0 then f_X12_sums_b68 (f_X12_sums_b45 f) τ x1 x2 x3 x4 (nI i) (1 : Int64) (nI i) else f_X12_sums_b68 (f_X12_sums_b45 f) τ x1 x2 x3 x4 (nI i) (0 : Int64) (nI i)) = f_X12_sums_b68 (f_X12_sums_b45 f) τ x1 x2 x3 x4 (nI i) (lN (if i = 0 then 1 else 0)) (nI i) := by
      by_cases e : i = 0
      · rw [if_pos ((nI_z (by omega)).mpr e), if_pos e]; rfl
      · rw [if_neg (fun z => e ((nI_z (by omega)).mp z)), if_neg e]; rfl
    rw [f_X12_sums_b45, if_neg (show ¬ (120 : Int32) ≤ nI i from nI_ge (b := 120) (by omega) (by omega)), e0]
    unfold f_X12_sums_b68
    rw [chk_in (show i < 120 by omega) (by omega), nI_clamp (by omega), bnd_e, bnd_e, nI_p1]
    refine ih (i + 1) f _ (by omega) (by omega) (absM_621 hm _) (fun s hs => ?_)
    show vp_updL (τ.2.2.2.1 621 0) i (lN (if i = 0 then 1 else 0)) s = lN (if s = 0 then 1 else 0)
    by_cases e : s = i
    · rw [e, pk_uLs]
    · rw [pk_uLn e]; exact h s (by omega)
theorem dg_len (len : Nat) (it : Nat → Int64) : ∀ m i, i ≤ len → dgN len it m i ≤ len
  | 0, i, h => h
  | m + 1, i, h => by
    rw [dgN]
    split
    · rename_i h1
      exact dg_len len it m (i + 1) (by omega)
    · exact h
theorem sp19 (k : Nat) : Step_19 (Rel k) (Rel (k + 1)) := by
  intro σ τ p q r hr
  obtain ⟨α, ho, hc, hm⟩ := hr
  have hR : Rel (k + 1) σ τ := ⟨α, okA_mono ho, hc, hm⟩
  unfold f_X11_sums f_X12_sums
  rw [show f_X12_within q.toInt64 0 44 = some (tf (0 ≤ q ∧ q ≤ 44)) from w32 q 0 44]
  have badM : ∀ X : Int32 → Option (Int64 × St), bnd2 (f_X12_bytesIs τ p) (fun r2 σ3 => if r2 = (1 : Int32) then some ((-9223372036854775808 : Int64), σ3) else some (-9223372036854775808, σ3)) = some (-9223372036854775808, τ) := by
    intro _
    rcases bytes_both ho hc hm p with ⟨d, hd, ed, ht, b1, b2⟩ | ⟨b, hb, b1, b2⟩
    · rw [b2, bnd2_e, ite_self]
    · rw [b2, bnd2_e, ite_self]
  by_cases hq : 0 ≤ q ∧ q ≤ 44
  · rw [tf_t hq, if_neg (Int32.not_lt.mpr hq.1), if_neg (Int32.not_lt.mpr hq.2)]
    rcases part_both r with ⟨w, hw, er, d1, d2⟩ | ⟨d1, d2⟩
    · rw [d1, d2]
      simp only [bnd1_e, if_neg one_n0]
      rcases bytes_both ho hc hm p with ⟨d, hd, ed, ht, b1, b2⟩ | ⟨b, hb, b1, b2⟩
      · rw [b1, b2, bnd2_e, bnd2_e, if_pos rfl, if_pos rfl]
        obtain ⟨x, hx, ex⟩ := rng_of (n := 44) (by omega) hq
        subst ed
        subst ex
        subst er
        obtain ⟨r1, _, _⟩ := row_C ho hc hd (show 51 ≤ (aSH α d).1 by omega)
        obtain ⟨σ1, x1, x2⟩ := figs_C ho hc hd (show 51 ≤ (aSH α d).1 by omega)
        have hn4 := dg_le (aSH α d).2.1 (aSH α d).2.2 4 0
        have hnl := dg_len (aSH α d).2.1 (aSH α d).2.2 4 0 (Nat.zero_le _)
        have y1 : f_X12_figuresOf τ (nI d) = _ := figsOf_M ho hm hd (show 51 ≤ (aSH α d).1 by omega) r1 4 0 256 (by omega) (by omega)
        obtain ⟨τ1, z1, z2, z3⟩ := init45 (x1 := nI d) (x2 := nI x) (x3 := nI w) (x4 := nI (dgN (aSH α d).2.1 (aSH α d).2.2 4 0)) 120 0 256 τ (by omega) (by omega) hm (fun s hs => absurd hs (Nat.not_lt_zero s))
        have z1' : f_X12_sums_b45 256 τ (nI d) (nI x) (nI w) (nI (dgN (aSH α d).2.1 (aSH α d).2.2 4 0)) (0 : Int32) = _ := z1
        obtain ⟨τ2, w1, w2⟩ := loop78 ho hd (show 51 ≤ (aSH α d).1 by omega) r1 (show dgN (aSH α d).2.1 (aSH α d).2.2 4 0 ≤ 4 by omega) hnl (show x < 45 by omega) (w := w) (dgN (aSH α d).2.1 (aSH α d).2.2 4 0) 0 256 τ1 (by omega) (by omega) z2 (fun s hs => z3 s (by omega))
        have w1' : f_X12_sums_b78 256 τ1 (nI d) (nI x) (nI w) (nI (dgN (aSH α d).2.1 (aSH α d).2.2 4 0)) (0 : Int32) = _ := w1
        have hb1 := wys_le α (aSH α d).2.2 45 (by omega) (dgN (aSH α d).2.1 (aSH α d).2.2 4 0)
        have hb2 := pow1200 (show dgN (aSH α d).2.1 (aSH α d).2.2 4 0 ≤ 4 by omega)
        have hb3 := sum_cut α (aSH α d).2.2 (show dgN (aSH α d).2.1 (aSH α d).2.2 4 0 ≤ 4 by omega)
        have hb4 := sums_get (f := wysN α (aSH α d).2.2 (dgN (aSH α d).2.1 (aSH α d).2.2 4 0)) (show x < 45 by omega)
        obtain ⟨_, r1', _, _⟩ := cRef x2.1
        rw [chk_in hd (by omega), nI_clamp (by omega), x1, bnd1_e, x2.2.2, y1, bnd2_e, z1', w1', hb3]
        by_cases h0 : smsN (wysN α (aSH α d).2.2 (dgN (aSH α d).2.1 (aSH α d).2.2 4 0)) 45 = 0
        · rw [if_pos ((lN_z (by omega)).mpr h0), if_pos h0]
          exact ⟨_, _, _, rfl, rfl, α, okA_mono ho, x2.1, w2⟩
        · rw [if_neg (fun z => h0 ((lN_z (by omega)).mp z)), if_neg h0, chk_e (show ¬ 2 ≤ σ1.2.2.2.2 101 by omega), chk_in (show x < 45 by omega) (by omega), nI_clamp (by omega), x2.2.1 x (by omega), fracRes (by omega) (by omega) (by omega) hw, e_partOf (by omega) (by omega) (by omega) hw]
          exact ⟨_, _, _, rfl, rfl, α, okA_mono ho, x2.1, w2⟩
      · have hb3 := tri_ne hb
        rw [b1, b2, bnd2_e, bnd2_e, if_neg hb3.1, if_neg hb3.2.1]
        exact ⟨_, _, _, rfl, rfl, hR⟩
    · rw [d1, d2]
      simp only [bnd1_e, if_pos True.intro, if_neg one_n0]
      rw [badM (fun _ => none)]
      exact ⟨_, _, _, rfl, rfl, hR⟩
  · rw [tf_f hq]
    simp only [bnd1_e, if_pos True.intro]
    rw [badM (fun _ => none)]
    by_cases h1 : q < 0
    · rw [if_pos h1]; exact ⟨_, _, _, rfl, rfl, hR⟩
    · rw [if_neg h1, if_pos (Int32.not_le.mp (fun y => hq ⟨Int32.not_lt.mp h1, y⟩))]; exact ⟨_, _, _, rfl, rfl, hR⟩
