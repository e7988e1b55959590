/-! the one mathematical state that class and model are both tied to -/
/-- a CALL: its NAME (-1: none is on), said, noted, draws, LETTERS said, CALLS, right ones, time -/
abbrev DD : Type := Int32 × (Nat → Nat) × (Nat → Nat) × Int32 × Int32 × Int32 × Int32 × Int32
abbrev LF : Type := Int32 → Int32 → Int32 → Int32 → Int32 → Int32 → Int32
abbrev Ab : Type := (List (List Nat) × (Nat → Nat)) × ((Nat → Nat → Nat) × (Nat → Nat) × (Nat → Nat) × Nat) × Option LF × List Nat × (List (Nat × Nat × Nat × Nat) × Nat) × (DD × Option DD) × (List Nat × Nat × (Nat → Nat)) × (Nat → Nat × Nat × (Nat → Int64))
abbrev aN (α : Ab) : List (List Nat) := α.1.1
abbrev aK (α : Ab) : Nat → Nat := α.1.2
abbrev aAL (α : Ab) : Nat → Nat → Nat := α.2.1.1
abbrev aLG (α : Ab) : Nat → Nat := α.2.1.2.1
abbrev aCL (α : Ab) : Nat → Nat := α.2.1.2.2.1
abbrev aNO (α : Ab) : Nat := α.2.1.2.2.2
abbrev aLW (α : Ab) : Option LF := α.2.2.1
abbrev aTP (α : Ab) : List Nat := α.2.2.2.1
abbrev aCH (α : Ab) : List (Nat × Nat × Nat × Nat) := α.2.2.2.2.1.1
abbrev aDN (α : Ab) : Nat := α.2.2.2.2.1.2
abbrev aD (α : Ab) : DD := α.2.2.2.2.2.1.1
abbrev aIM (α : Ab) : Option DD := α.2.2.2.2.2.1.2
abbrev aBK (α : Ab) : List Nat := α.2.2.2.2.2.2.1.1
abbrev aRN (α : Ab) : Nat := α.2.2.2.2.2.2.1.2.1
abbrev aTR (α : Ab) : Nat → Nat := α.2.2.2.2.2.2.1.2.2
abbrev aSH (α : Ab) : Nat → Nat × Nat × (Nat → Int64) := α.2.2.2.2.2.2.2
/-- LETTERS of a NAME -/
abbrev nmL (N : List (List Nat)) (n : Nat) : List Nat := N.getD n []
abbrev ltr (N : List (List Nat)) (n i : Nat) : Nat := (N.getD n []).getD i 0
/-! what is so of it -/
def OkN (N : List (List Nat)) (K : Nat → Nat) : Prop := N.length ≤ 10 ∧ (∀ n, n < N.length → 1 ≤ (nmL N n).length ∧ (nmL N n).length ≤ 6) ∧ (∀ n i, ltr N n i < 12) ∧ ∀ n, K n ≤ 9
def OkL (AL : Nat → Nat → Nat) (LG CL : Nat → Nat) (NO : Nat) : Prop := (∀ s h, AL s h ≤ 9) ∧ (∀ s h, AL s h = AL h s) ∧ (∀ s, AL s s = 9) ∧ (∀ l, 1 ≤ LG l ∧ LG l ≤ 9) ∧ (∀ l, CL l ≤ 12) ∧ NO ≤ 9
def OkT (TP : List Nat) : Prop := TP.length ≤ 120 ∧ ∀ i, TP.getD i 0 < 256
/-- a change: number, what, was, is -/
def OkC1 (nn : Nat) (c : Nat × Nat × Nat × Nat) : Prop := (c.2.1 = 0 ∧ c.1 < nn ∧ c.2.2.1 ≤ 9 ∧ c.2.2.2 ≤ 9) ∨ (c.2.1 = 1 ∧ c.1 / 100 < 12 ∧ c.1 % 100 < 12 ∧ c.1 / 100 ≠ c.1 % 100 ∧ c.2.2.1 ≤ 9 ∧ c.2.2.2 ≤ 9) ∨ (c.2.1 = 2 ∧ c.1 < 12 ∧ 1 ≤ c.2.2.1 ∧ c.2.2.1 ≤ 9 ∧ 1 ≤ c.2.2.2 ∧ c.2.2.2 ≤ 9) ∨ (c.2.1 = 3 ∧ c.1 < 12 ∧ c.2.2.1 ≤ 12 ∧ c.2.2.2 ≤ 12) ∨ (c.2.1 = 4 ∧ c.1 = 0 ∧ c.2.2.1 ≤ 9 ∧ c.2.2.2 ≤ 9)
def OkC (nn : Nat) (CH : List (Nat × Nat × Nat × Nat)) (DN : Nat) : Prop := CH.length ≤ 40 ∧ DN ≤ CH.length ∧ ∀ c ∈ CH, OkC1 nn c
def OkD (N : List (List Nat)) (k : Nat) (d : DD) : Prop := ((d.1 = -1 ∧ d.2.2.2.2.1 = 0) ∨ ∃ n, n < N.length ∧ d.1 = nI n) ∧ (∀ i, d.2.1 i ≤ k) ∧ ∀ i, d.2.2.1 i < 12
def OkB (BK : List Nat) (RN : Nat) : Prop := BK.length ≤ 50 ∧ (∀ i, BK.getD i 0 < 8) ∧ RN ≤ 100
/-- a SHELF: 0 nothing; 1 .. 50 a SPELLING; 51 .. 55 a ROW of sort 0 .. 4 -/
def OkS (nb : Nat) (SH : Nat → Nat × Nat × (Nat → Int64)) : Prop := ∀ d, d < 6 → ((SH d).1 = 0 ∨ (1 ≤ (SH d).1 ∧ (SH d).1 ≤ nb) ∨ (51 ≤ (SH d).1 ∧ (SH d).1 ≤ 55 ∧ (SH d).2.1 ≤ 60))
def OkA (k : Nat) (α : Ab) : Prop := OkN (aN α) (aK α) ∧ OkL (aAL α) (aLG α) (aCL α) (aNO α) ∧ OkT (aTP α) ∧ OkC (aN α).length (aCH α) (aDN α) ∧ OkD (aN α) k (aD α) ∧ (∀ d, aIM α = some d → OkD (aN α) k d) ∧ OkB (aBK α) (aRN α) ∧ OkS (aBK α).length (aSH α)
/-! WEIGHTS -/
def wv (α : Ab) (s h k : Nat) : Int32 := match aLW α with
  | none => nI (if s = h then 9 else 0) + nI (aAL α s h) * nI (aNO α) - 2 * nI k
  | some f => f (nI (aAL α s h)) (nI (aNO α)) (nI (if s = h then 1 else 0)) (nI s) (nI h) (nI k)
def wt (α : Ab) (s h k : Nat) : Nat := if wv α s h k < 0 then 0 else if 99 < wv α s h k then 99 else (wv α s h k).toNatClampNeg
def wsum (α : Ab) (s k : Nat) : Nat → Nat
  | 0 => 0
  | h + 1 => wsum α s k h + wt α s h k
/-! the class's side -/
def NamesP (N : List (List Nat)) (K : Nat → Nat) (cnt : Int32) (sz lt kn : Nat → Int32) : Prop := cnt = nI N.length ∧ ∀ n, n < N.length → sz n = nI (nmL N n).length ∧ kn n = nI (K n) ∧ ∀ i, i < (nmL N n).length → lt (6 * n + i) = nI (ltr N n i)
def LineC (AL : Nat → Nat → Nat) (LG CL : Nat → Nat) (NO : Nat) (al lg cl : Nat → Int32) (no : Int32) : Prop := (∀ s h, s < 12 → h < 12 → al (12 * s + h) = nI (AL s h)) ∧ (∀ l, l < 12 → lg l = nI (LG l) ∧ cl l = nI (CL l)) ∧ no = nI NO
def CacheC (α : Ab) (w t : Nat → Int32) : Prop := ∀ k s, k < 10 → s < 12 → t (12 * k + s) = -1 ∨ (t (12 * k + s) = nI (wsum α s k 12) ∧ ∀ h, h < 12 → w ((12 * k + s) * 12 + h) = nI (wt α s h k))
def LawSem (cd : Nat → Int32) (len : Int32) (f : LF) : Prop := ∀ (σ : St) (j : Nat) (a n e s h k : Int32), σ.2.2.1 200 j = cd → σ.1 203 j = len → ok (f_X4_worth σ j a n e s h k) (fun v => v.1 = f a n e s h k ∧ ∃ F G, v.2 = sA (sA σ 201 j F) 202 j G)
def LawC (LW : Option LF) (σ : St) : Prop := match LW with
  | none => σ.2.2.2.2 254 = 0
  | some f => ∃ j, σ.2.2.2.2 254 = j + 1 ∧ LawSem (σ.2.2.1 200 j) (σ.1 203 j) f
def RefC (R : Nat → Nat) : Prop := ((R 0 = 1 ∧ R 254 = 0 ∧ R 255 = 1 ∧ R 353 ≤ 1) ∨ (R 0 = 2 ∧ ((R 254 = 1 ∧ R 255 = 2) ∨ (R 254 = 2 ∧ R 255 = 1)) ∧ R 353 ≤ 2)) ∧ R 101 < 2 ∧ R 102 < 2 ∧ R 101 ≠ R 102
def TapeP (TP : List Nat) (len : Int32) (t : Nat → Int32) : Prop := len = nI TP.length ∧ ∀ i, i < TP.length → t i = nI (TP.getD i 0)
def chg (CH : List (Nat × Nat × Nat × Nat)) (i : Nat) : Nat × Nat × Nat × Nat := CH.getD i (0, 0, 0, 0)
def ChgC (CH : List (Nat × Nat × Nat × Nat)) (DN : Nat) (nu ki be bh : Nat → Int32) (dn un fi : Int32) : Prop := dn = nI DN ∧ un = nI (CH.length - DN) ∧ ∃ f, f < 40 ∧ fi = nI f ∧ ∀ i, i < CH.length → nu ((f + i) % 40) = nI (chg CH i).1 ∧ ki ((f + i) % 40) = nI (chg CH i).2.1 ∧ be ((f + i) % 40) = nI (chg CH i).2.2.1 ∧ bh ((f + i) % 40) = nI (chg CH i).2.2.2
def DeedC (d : DD) (σ : St) (o : Nat) : Prop := σ.1 52 o = d.1 ∧ σ.1 56 o = d.2.2.2.2.1 ∧ σ.1 53 o = d.2.2.2.2.2.1 ∧ σ.1 54 o = d.2.2.2.2.2.2.1 ∧ σ.1 55 o = d.2.2.2.2.2.2.2 ∧ (d.1 ≠ -1 → σ.1 57 o = d.2.2.2.1 ∧ ∀ i, i < 6 → σ.2.2.1 50 o i = nI (d.2.1 i) ∧ (d.2.1 i ≠ 0 → σ.2.2.1 51 o i = nI (d.2.2.1 i)))
def SpellP (BK : List Nat) (RN : Nat) (TR : Nat → Nat) (cnt : Int32) (kd : Nat → Int32) (rn : Int32) (tr : Nat → Int32) : Prop := cnt = nI BK.length ∧ (∀ i, i < BK.length → kd i = nI (BK.getD i 0)) ∧ rn = nI RN ∧ ∀ i, i < RN → i < 24 → tr i = nI (TR i)
def ShelfC (SH : Nat → Nat × Nat × (Nat → Int64)) (σ : St) : Prop := ∀ d, d < 6 → ((SH d).1 = 0 → σ.1 401 d = -1) ∧ (1 ≤ (SH d).1 ∧ (SH d).1 ≤ 50 → σ.1 401 d = nI ((SH d).1 - 1)) ∧ (51 ≤ (SH d).1 → σ.1 401 d = -2 ∧ σ.1 402 d = nI ((SH d).1 - 51) ∧ σ.1 403 d = nI (SH d).2.1 ∧ ∀ i, i < (SH d).2.1 → σ.2.2.2.1 400 d i = (SH d).2.2 i)
def AbsC (α : Ab) (σ : St) : Prop := NamesP (aN α) (aK α) (σ.1 303 0) (σ.2.2.1 301 0) (σ.2.2.1 300 0) (σ.2.2.1 302 0) ∧ LineC (aAL α) (aLG α) (aCL α) (aNO α) (σ.2.2.1 250 0) (σ.2.2.1 251 0) (σ.2.2.1 252 0) (σ.1 253 0) ∧ CacheC α (σ.2.2.1 256 0) (σ.2.2.1 257 0) ∧ LawC (aLW α) σ ∧ RefC σ.2.2.2.2 ∧ TapeP (aTP α) (σ.1 351 0) (σ.2.2.1 350 0) ∧ ChgC (aCH α) (aDN α) (σ.2.2.1 0 0) (σ.2.2.1 1 0) (σ.2.2.1 2 0) (σ.2.2.1 3 0) (σ.1 4 0) (σ.1 5 0) (σ.1 6 0) ∧ DeedC (aD α) σ 0 ∧ (σ.1 561 0 = tf (aIM α ≠ none) ∧ ∀ d, aIM α = some d → DeedC d σ 1) ∧ SpellP (aBK α) (aRN α) (aTR α) (σ.1 502 0) (σ.2.2.1 500 0) (σ.1 503 0) (σ.2.2.1 501 0) ∧ ShelfC (aSH α) σ
/-! the model's side -/
def LineM (AL : Nat → Nat → Nat) (LG CL : Nat → Nat) (NO : Nat) (may : Nat → Int32) : Prop := (∀ s h, s < h → h < 12 → may (10 + (12 * s + h)) = nI (AL s h)) ∧ (∀ l, l < 12 → may (154 + l) = nI (LG l) ∧ may (166 + l) = nI (CL l)) ∧ may 178 = nI NO
def TextSem (tx : Nat → Int32) (len : Int32) (f : LF) : Prop := ∀ τ : St, τ.2.2.1 611 0 = tx → ok (f_X12_workOut τ 0 len) (fun v => v.1 = f (τ.2.2.1 618 0 0) (τ.2.2.1 618 0 1) (τ.2.2.1 618 0 2) (τ.2.2.1 618 0 3) (τ.2.2.1 618 0 4) (τ.2.2.1 618 0 5) ∧ (∀ g o, ¬ (613 ≤ g ∧ g ≤ 617) → v.2.1 g o = τ.1 g o) ∧ v.2.2 = τ.2)
def LawM (LW : Option LF) (τ : St) : Prop := match LW with
  | none => τ.1 612 0 = -1
  | some f => ¬ τ.1 612 0 < 0 ∧ TextSem (τ.2.2.1 611 0) (τ.1 612 0) f
/-- where a number lies in the model's row -/
def whr (n kind : Nat) : Nat := if kind = 0 then n else if kind = 1 then 10 + (if n / 100 < n % 100 then 12 * (n / 100) + n % 100 else 12 * (n % 100) + n / 100) else if kind = 2 then 154 + n else if kind = 3 then 166 + n else 178
def ChgM (CH : List (Nat × Nat × Nat × Nat)) (DN : Nat) (aT wa iz : Nat → Int32) (km dn : Int32) : Prop := dn = nI DN ∧ km = nI CH.length ∧ ∀ i, i < CH.length → aT i = nI (whr (chg CH i).1 (chg CH i).2.1) ∧ wa i = nI (chg CH i).2.2.1 ∧ iz i = nI (chg CH i).2.2.2
/-- what is NOTED: -2, as long as it wasn't said -/
def ntd (d : DD) (i : Nat) : Int32 := if d.2.1 i = 0 then -2 else nI (d.2.2.1 i)
def DeedM (d : DD) (τ : St) : Prop := τ.1 623 0 = d.1 ∧ τ.1 628 0 = d.2.2.2.2.2.1 ∧ τ.1 629 0 = d.2.2.2.2.2.2.1 ∧ τ.1 630 0 = d.2.2.2.2.2.2.2 ∧ (d.1 ≠ -1 → τ.1 625 0 = d.2.2.2.2.1 ∧ τ.1 624 0 = d.2.2.2.1 ∧ ∀ i, i < 6 → τ.2.2.1 626 0 i = nI (d.2.1 i) ∧ τ.2.2.1 627 0 i = ntd d i)
def ImgM (d : DD) (im : Nat → Int32) : Prop := im 12 = d.1 ∧ im 15 = d.2.2.2.2.2.1 ∧ im 16 = d.2.2.2.2.2.2.1 ∧ im 17 = d.2.2.2.2.2.2.2 ∧ (d.1 ≠ -1 → im 14 = d.2.2.2.2.1 ∧ im 13 = d.2.2.2.1 ∧ ∀ i, i < 6 → im i = nI (d.2.1 i) ∧ im (6 + i) = ntd d i)
def ShelfM (SH : Nat → Nat × Nat × (Nat → Int64)) (sh ma : Nat → Int32) (it : Nat → Int64) : Prop := ∀ d, d < 6 → ((SH d).1 = 0 → sh d = -1) ∧ (1 ≤ (SH d).1 → sh d = nI ((SH d).1 - 1)) ∧ (51 ≤ (SH d).1 → ma d = nI (SH d).2.1 ∧ ∀ i, i < (SH d).2.1 → it (60 * d + i) = (SH d).2.2 i)
def AbsM (α : Ab) (τ : St) : Prop := NamesP (aN α) (aK α) (τ.1 606 0) (τ.2.2.1 607 0) (τ.2.2.1 608 0) (τ.2.2.1 600 0) ∧ LineM (aAL α) (aLG α) (aCL α) (aNO α) (τ.2.2.1 600 0) ∧ LawM (aLW α) τ ∧ TapeP (aTP α) (τ.1 610 0) (τ.2.2.1 609 0) ∧ ChgM (aCH α) (aDN α) (τ.2.2.1 601 0) (τ.2.2.1 602 0) (τ.2.2.1 603 0) (τ.1 604 0) (τ.1 605 0) ∧ DeedM (aD α) τ ∧ (τ.1 631 0 = tf (aIM α ≠ none) ∧ ∀ d, aIM α = some d → ImgM d (τ.2.2.1 632 0)) ∧ SpellP (aBK α) (aRN α) (aTR α) (τ.1 633 0) (τ.2.2.1 634 0) (τ.1 636 0) (τ.2.2.1 635 0) ∧ ShelfM (aSH α) (τ.2.2.1 639 0) (τ.2.2.1 640 0) (τ.2.2.2.1 641 0)
def Rel (k : Nat) (σ τ : St) : Prop := ∃ α : Ab, OkA k α ∧ AbsC α σ ∧ AbsM α τ
