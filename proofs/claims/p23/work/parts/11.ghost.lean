/-! The reference's state as a ghost: its numbers and what each call does to them; pure. -/
section WModel
theorem thv (I : wI) (v : Int32) : upI I 12 0 0 v 12 0 0 = v := by rw [upI_at]; simp
def inR (x lo hi : Int32) : Bool := !decide (x < lo) && !decide (hi < x)
def mm (I : wI) (h : Nat) : Nat := (I 13 15 h).toNatClampNeg
def mh (I : wI) (h : Nat) : Nat := (I 13 19 h).toNatClampNeg
def mf (I : wI) (m : Nat) : Nat := (I 13 8 m).toNatClampNeg
def mfr (I : wI) (h : Nat) : Nat := (I 13 18 h).toNatClampNeg
def msp (I : wI) (h : Nat) : Nat := (I 13 17 h).toNatClampNeg
def mpy (I : wI) (q : Nat) : Nat := (I 13 22 q).toNatClampNeg
/-- the numbers of the other side: M things, N meetings -/
def MI (M N : Nat) (I : wI) : Prop := M ≤ 12 ∧ N ≤ 24 ∧ I 12 0 5 = nI M ∧ I 12 0 13 = nI N ∧ (∀ h, h < N → I 13 15 h = nI (mm I h) ∧ mm I h < M) ∧ (∀ h, h < N → I 13 19 h = nI (mh I h) ∧ mh I h ≤ 4) ∧ (∀ h, h < N → I 13 17 h = -1 ∨ (I 13 17 h = nI (msp I h) ∧ msp I h < 4)) ∧ (∀ h, h < N → I 13 18 h = nI (mfr I h) ∧ mfr I h ≤ 999) ∧ (∀ m, m < M → I 13 8 m = nI (mf I m) ∧ mf I m < 6) ∧ (∀ q, q < 4016 → I 13 22 q = nI (mpy I q) ∧ mpy I q ≤ M)
theorem MI.mt {M N : Nat} {I : wI} (X : MI M N I) {h : Nat} (hh : h < N) : I 13 15 h = nI (mm I h) := (X.2.2.2.2.1 h hh).1
theorem MI.mt2 {M N : Nat} {I : wI} (X : MI M N I) {h : Nat} (hh : h < N) : mm I h < 12 := by have := (X.2.2.2.2.1 h hh).2; have := X.1; omega
theorem MI.mtM {M N : Nat} {I : wI} (X : MI M N I) {h : Nat} (hh : h < N) : mm I h < M := (X.2.2.2.2.1 h hh).2
theorem MI.hr {M N : Nat} {I : wI} (X : MI M N I) {h : Nat} (hh : h < N) : I 13 19 h = nI (mh I h) := (X.2.2.2.2.2.1 h hh).1
theorem MI.hr4 {M N : Nat} {I : wI} (X : MI M N I) {h : Nat} (hh : h < N) : mh I h ≤ 4 := (X.2.2.2.2.2.1 h hh).2
theorem MI.sp {M N : Nat} {I : wI} (X : MI M N I) {h : Nat} (hh : h < N) : I 13 17 h = -1 ∨ (I 13 17 h = nI (msp I h) ∧ msp I h < 4) := X.2.2.2.2.2.2.1 h hh
theorem MI.fr {M N : Nat} {I : wI} (X : MI M N I) {h : Nat} (hh : h < N) : I 13 18 h = nI (mfr I h) ∧ mfr I h ≤ 999 := X.2.2.2.2.2.2.2.1 h hh
theorem MI.fs {M N : Nat} {I : wI} (X : MI M N I) {m : Nat} (hm : m < M) : I 13 8 m = nI (mf I m) ∧ mf I m < 6 := X.2.2.2.2.2.2.2.2.1 m hm
theorem MI.py {M N : Nat} {I : wI} (X : MI M N I) {q : Nat} (hq : q < 4016) : I 13 22 q = nI (mpy I q) ∧ mpy I q ≤ M := X.2.2.2.2.2.2.2.2.2 q hq
theorem MI.of {M N : Nat} {I I' : wI} (X : MI M N I) (h5 : I' 12 0 5 = I 12 0 5) (h13 : I' 12 0 13 = I 12 0 13) (hr : ∀ f, f = 15 ∨ f = 19 ∨ f = 17 ∨ f = 18 ∨ f = 8 → I' 13 f = I 13 f) (hp : ∀ q, q < 4016 → ∃ p, p ≤ M ∧ I' 13 22 q = nI p) : MI M N I' := by
  obtain ⟨a, b, c, d, e, f, g, h, i, j⟩ := X
  refine ⟨a, b, h5.trans c, h13.trans d, ?_, ?_, ?_, ?_, ?_, fun q hq => ?_⟩
  · unfold mm; rw [hr 15 (by omega)]; exact e
  · unfold mh; rw [hr 19 (by omega)]; exact f
  · unfold msp; rw [hr 17 (by omega)]; exact g
  · unfold mfr; rw [hr 18 (by omega)]; exact h
  · unfold mf; rw [hr 8 (by omega)]; exact i
  · obtain ⟨p, h1, h2⟩ := hp q hq
    unfold mpy
    rw [h2, nI_clamp (by omega)]
    exact ⟨rfl, h1⟩
theorem MI.up {M N : Nat} {I : wI} (X : MI M N I) {k j c : Nat} (v : Int32) (h : (k = 12 ∧ c ≠ 5 ∧ c ≠ 13) ∨ (k = 13 ∧ j ≠ 15 ∧ j ≠ 19 ∧ j ≠ 17 ∧ j ≠ 18 ∧ j ≠ 8 ∧ j ≠ 22) ∨ k < 12) : MI M N (upI I k j c v) := X.of (by rw [upI_at, if_neg (by omega)]) (by rw [upI_at, if_neg (by omega)]) (fun f hf => upI_off I v (by omega)) (fun q hq => ⟨mpy I q, (X.py hq).2, by rw [upI_at, if_neg (by omega)]; exact (X.py hq).1⟩)
theorem MI.up22 {M N : Nat} {I : wI} (X : MI M N I) {c p : Nat} (hp : p ≤ M) {v : Int32} (hv : v = nI p) : MI M N (upI I 13 22 c v) := X.of (by rw [upI_at, if_neg (by omega)]) (by rw [upI_at, if_neg (by omega)]) (fun f hf => upI_off I v (by omega)) (fun q hq => by
  rw [upI_at]
  split
  · exact ⟨p, hp, hv⟩
  · exact ⟨mpy I q, (X.py hq).2, (X.py hq).1⟩)
theorem nI_m1 (M : Nat) (h : M < 2 ^ 30) : (nI M - 1).toInt = (M : Int) - 1 := by
  have := pk_sub_toInt (a := M) (b := 1) h (by omega)
  exact this
theorem inR_T {j M : Nat} (hj : j < M) (hM : M < 2 ^ 30) : inR (nI j) 0 (nI M - 1) = true := by
  have h1 : ¬ nI j < 0 := nI_pos (by omega)
  have h2 : ¬ nI M - 1 < nI j := by rw [Int32.lt_iff_toInt_lt, nI_m1 M hM, nI_toInt (by omega)]; omega
  simp [inR, h1, h2]
theorem inR_F {x : Int32} {M : Nat} (h : x < 0 ∨ nI M ≤ x) (hM : M < 2 ^ 30) : inR x 0 (nI M - 1) = false := by
  by_cases h0 : x < 0
  · simp [inR, h0]
  · have h1 := h.resolve_left h0
    have h2 : nI M - 1 < x := by
      rw [Int32.le_iff_toInt_le, nI_toInt (by omega)] at h1
      rw [Int32.lt_iff_toInt_lt, nI_m1 M hM]; omega
    simp [inR, h0, h2]
def mOp (I : wI) (m : Nat) : Bool := isOp (I 13 6 m)
def mt4 (a many b more : Int32) : Bool := !decide (b + more ≤ a) && !decide (a + many ≤ b)
def mFit (I : wI) (m : Nat) (who : Int32) : Bool := if I 13 10 m = -1 then decide (who = -1) else (!decide (who = -1)) && decide ((I 13 2 who.toNatClampNeg >>> (I 13 10 m &&& 31)) &&& 1 = 1)
def mSame (I : wI) (what : Int32) (m : Nat) (wh who : Int32) (h : Nat) : Bool := if what = 1 then decide (I 13 16 h = wh) else if what = 2 then decide (I 13 7 (mm I h) = I 13 7 m) else if what = 3 then decide (I 13 8 (mm I h) = I 13 8 m ∨ I 13 8 (mm I h) = I 13 9 m ∨ I 13 9 (mm I h) = I 13 8 m ∨ I 13 9 (mm I h) = I 13 9 m) else decide (¬ who = -1 ∧ I 13 17 h = who)
def mClS (I : wI) (what : Int32) (m : Nat) (wh who at1 many but : Int32) (h : Nat) (b : Bool) : Bool := b || (!decide (nI h = but) && (decide (I 13 14 h = 0) && (mSame I what m wh who h && mt4 (I 13 18 h) (I 13 19 h) at1 many)))
def mClL (I : wI) (what : Int32) (m : Nat) (wh who at1 many but : Int32) : Nat → Nat → Bool → Bool
  | 0, _, b => b
  | n + 1, h, b => mClL I what m wh who at1 many but n (h + 1) (mClS I what m wh who at1 many but h b)
def mRe (I : wI) (N m : Nat) (wh who at1 many but : Int32) : Int32 := if mClL I 1 m wh who at1 many but N 0 false = true then 1 else if mClL I 2 m wh who at1 many but N 0 false = true then 2 else if mClL I 3 m wh who at1 many but N 0 false = true then 3 else if mClL I 4 m wh who at1 many but N 0 false = true then 4 else 0
end WModel

section WModel2
theorem nI_nm1 {s : Nat} (h : s < 2 ^ 31) : ¬ nI s = -1 := fun e => by
  have h1 := congrArg Int32.toInt e
  rw [nI_toInt h, show (-1 : Int32).toInt = -1 from by decide] at h1
  omega
theorem ix4 (j k : Nat) : (4 : Int32) * nI j + nI k = nI (4 * j + k) := by rw [← nI_add, ← pk_mul]; rfl
theorem ixA (s f k : Nat) : (1004 : Int32) * nI s + nI f + nI k = nI (1004 * s + f + k) := by rw [← nI_add, ← nI_add, ← pk_mul]; rfl
def mAt (I : wI) (j k : Nat) : Nat := 1004 * msp I j + mfr I j + k
def mLvS (j m k : Nat) (I : wI) : wI := if I 13 18 j - I 12 0 1 < 8 then upI (upI I 13 22 (mAt I j k) (nI m + 1)) 13 23 (mAt I j k) (upI I 13 22 (mAt I j k) (nI m + 1) 13 21 (4 * j + k)) else upI I 13 11 m (I 13 11 m + I 13 21 (4 * j + k))
def mLvL (j m : Nat) : Nat → Nat → wI → wI
  | 0, _, I => I
  | n + 1, k, I => mLvL j m n (k + 1) (mLvS j m k I)
def mLv (j : Nat) (I : wI) : wI := if I 13 17 j = -1 ∨ I 13 18 j ≤ I 12 0 1 then I else mLvL j (mm I j) (mh I j) 0 I
def mCmS (j m k : Nat) (I : wI) : wI :=
  let q := mAt I j k
  let p := mpy I q
  let c := if p = 0 then I 13 3 (msp I j) else if p = m + 1 then 0 else I 13 23 q / 2
  let I1 := if p = 0 ∨ p = m + 1 then I else upI I 13 11 (p - 1) (I 13 11 (p - 1) + I 13 23 q / 2)
  let I2 := upI (upI I1 13 22 q 0) 13 23 q 0
  let I3 := upI I2 13 21 (4 * j + k) c
  upI I3 13 11 m (I3 13 11 m - c)
def mCmL (j m : Nat) : Nat → Nat → wI → wI
  | 0, _, I => I
  | n + 1, k, I => mCmL j m n (k + 1) (mCmS j m k I)
def mC0S (j m k : Nat) (I : wI) : wI := upI (upI I 13 21 (4 * j + k) 0) 13 11 m (upI I 13 21 (4 * j + k) 0 13 11 m - 0)
def mC0L (j m : Nat) : Nat → Nat → wI → wI
  | 0, _, I => I
  | n + 1, k, I => mC0L j m n (k + 1) (mC0S j m k I)
def mCm (j : Nat) (I : wI) : wI := if I 13 17 j = -1 then mC0L j (mm I j) (mh I j) 0 I else mCmL j (mm I j) (mh I j) 0 I
theorem msp_of {I I' : wI} {j : Nat} (h : I' 13 17 j = I 13 17 j) : msp I' j = msp I j := by unfold msp; rw [h]
theorem mfr_of {I I' : wI} {j : Nat} (h : I' 13 18 j = I 13 18 j) : mfr I' j = mfr I j := by unfold mfr; rw [h]
def tcI (I : wI) (x : Int32) (k : Nat) : Nat → Nat → Int32 → Int32
  | 0, _, y => y
  | n + 1, t, y => tcI I x k n (t + 1) (y + if I 13 22 (1004 * k + t) = x + 1 then 1 else 0)
def tcO (I : wI) (x : Int32) (nw : Nat) : Nat → Nat → Int32 → Int32
  | 0, _, y => y
  | n + 1, k, y => tcO I x nw n (k + 1) (tcI I x k (1003 - nw) (nw + 1) y)
def eAS (m : Nat) (I : wI) : wI := upI I 13 12 m (I 13 12 m + if I 13 6 m = 3 then 1 else 0)
def eAL : Nat → Nat → wI → wI
  | 0, _, I => I
  | n + 1, m, I => eAL n (m + 1) (eAS m I)
def eB (I : wI) (h : Nat) : Bool := mOp I (mm I h) && decide (I 13 20 h = 3)
def eBS (h : Nat) (s : wI × Int32) : wI × Int32 := if s.1 13 14 h = 0 ∧ s.1 13 18 h + s.1 13 19 h = s.1 12 0 1 then (if eB s.1 h = true then (upI (upI s.1 13 14 h 1) 13 6 (mm s.1 h) 1, s.2 + 1) else (upI (upI s.1 13 14 h 2) 13 6 (mm s.1 h) (s.1 13 6 (mm s.1 h)), s.2 + 0)) else s
def eBL : Nat → Nat → wI × Int32 → wI × Int32
  | 0, _, s => s
  | n + 1, h, s => eBL n (h + 1) (eBS h s)
def eCS (m : Nat) (I : wI) : wI := upI I 13 6 m (if mOp I m = true ∧ ¬ I 12 0 1 < I 13 12 m then 5 else I 13 6 m)
def eCL : Nat → Nat → wI → wI
  | 0, _, I => I
  | n + 1, m, I => eCL n (m + 1) (eCS m I)
def eN (I : wI) : wI := upI I 12 0 1 (I 12 0 1 + 1)
theorem MI.eA {M N : Nat} {I : wI} (X : MI M N I) {m : Nat} : MI M N (eAS m I) := X.up _ (by omega)
theorem MI.eAL' {M N : Nat} : ∀ (n m : Nat) (I : wI), MI M N I → MI M N (eAL n m I)
  | 0, _, _, X => X
  | n + 1, m, I, X => MI.eAL' n (m + 1) _ X.eA
theorem MI.eBs {M N : Nat} {s : wI × Int32} (X : MI M N s.1) {h : Nat} : MI M N (eBS h s).1 := by
  unfold eBS
  split
  · split
    · exact (X.up _ (by omega)).up _ (by omega)
    · exact (X.up _ (by omega)).up _ (by omega)
  · exact X
theorem MI.eBL' {M N : Nat} : ∀ (n m : Nat) (s : wI × Int32), MI M N s.1 → MI M N (eBL n m s).1
  | 0, _, _, X => X
  | n + 1, m, s, X => MI.eBL' n (m + 1) _ X.eBs
theorem MI.eC {M N : Nat} {I : wI} (X : MI M N I) {m : Nat} : MI M N (eCS m I) := X.up _ (by omega)
theorem by_m1 {p : Nat} (h : 0 < p) (h2 : p < 2 ^ 30) : ¬ nI p - 1 = -1 := by
  intro e
  have := congrArg Int32.toInt e
  rw [nI_m1 p h2] at this
  simp at this
  omega
theorem by_pr {p : Nat} (h : 0 < p) : nI p - 1 = nI (p - 1) := by
  obtain ⟨q, rfl⟩ : ∃ q, p = q + 1 := ⟨p - 1, by omega⟩
  exact nI_pred q
end WModel2

section WModel3
def mEn (M N : Nat) (I : wI) : wI × Int32 := (eCL M 0 (eBL N 0 (eN (eAL M 0 I), 0)).1, (eBL N 0 (eN (eAL M 0 I), 0)).2)
theorem MI.eCL' {M N : Nat} : ∀ (n m : Nat) (I : wI), MI M N I → MI M N (eCL n m I)
  | 0, _, _, X => X
  | n + 1, m, I, X => MI.eCL' n (m + 1) _ X.eC
theorem MI.en {M N : Nat} {I : wI} (X : MI M N I) : MI M N (mEn M N I).1 := MI.eCL' _ _ _ (MI.eBL' _ _ _ ((MI.eAL' _ _ _ X).up _ (by omega)))
end WModel3

section WModel4
def oM (x : Int32) (n : Nat) : Bool := decide (x < 0 ∨ nI n ≤ x)
theorem oM_T {x : Int32} {n : Nat} (h : x < 0 ∨ nI n ≤ x) : oM x n = true := decide_eq_true h
theorem oM_F {x : Int32} {n j : Nat} (hj : j < n) (hx : x = nI j) (hn : n < 2 ^ 31) : oM x n = false := decide_eq_false (fun e => by
  rw [hx] at e
  exact e.elim (nI_pos (by omega)) (nI_ge hj hn))
theorem oM_of {x : Int32} {n : Nat} (h : oM x n = false) (hn : n < 2 ^ 31) : ∃ j, j < n ∧ x = nI j := (in_of x n hn).resolve_right (of_decide_eq_false h)
theorem inR_of {x : Int32} {n : Nat} (hn : n < 2 ^ 31) (h : inR x 0 (nI n) = true) : ∃ j, j ≤ n ∧ x = nI j := by
  simp only [inR, Bool.and_eq_true, Bool.not_eq_true', decide_eq_false_iff_not] at h
  obtain ⟨j, hj2, hj⟩ := nI_of h.1
  refine ⟨j, ?_, hj⟩
  rcases Nat.lt_or_ge n j with q | q
  · exact absurd (by rw [hj]; exact nI_lt q hj2) h.2
  · exact q
def th (I : wI) (v : Int32) : wI := upI I 12 0 0 v
def mK0 (x y w : Int32) : Int32 := if inR x 0 3 = true then (if inR y 0 15 = true ∧ inR w 1 99 = true then 0 else 2) else 1
def mO0 (I : wI) (x y w : Int32) : wI × Int32 := if mK0 x y w = 0 then (upI (upI (th I 0) 13 2 x.toNatClampNeg y) 13 3 x.toNatClampNeg w, th I 0 13 3 x.toNatClampNeg) else (th I (mK0 x y w), 0)
def mK1 (x : Int32) : Int32 := if inR x 0 5 = true then 0 else 1
def mO1 (I : wI) (x y : Int32) : wI × Int32 := if mK1 x = 0 then (upI (th I 0) 13 4 x.toNatClampNeg y, th I 0 13 4 x.toNatClampNeg) else (th I (mK1 x), 0)
def mK2 (M : Nat) (x0 x1 x2 x3 : Int32) : Int32 := if inR x0 0 3 = true ∧ inR x1 0 5 = true ∧ inR x2 0 5 = true ∧ inR x3 (-1) 3 = true then (if x1 = x2 then 2 else if M = 12 then 3 else 0) else 1
def mO2 (I : wI) (M : Nat) (x0 x1 x2 x3 : Int32) : wI × Int32 := if mK2 M x0 x1 x2 x3 = 0 then (upI (upI (upI (upI (upI (upI (upI (th I 0) 13 7 M x0) 13 8 M x1) 13 9 M x2) 13 10 M x3) 13 11 M (if I 13 4 x1.toNatClampNeg = 0 then -50 else 0)) 13 12 M (I 12 0 1 + 100)) 12 0 5 (nI (M + 1)), nI M) else (th I (mK2 M x0 x1 x2 x3), 0)
def mK3 (M : Nat) (x y : Int32) : Int32 := if oM x M = true then 1 else if inR y 1 9999 = true then 0 else 2
def mO3 (I : wI) (M : Nat) (x y : Int32) : wI × Int32 := if mK3 M x y = 0 then (upI (th I 0) 13 11 x.toNatClampNeg (th I 0 13 11 x.toNatClampNeg + y), th I 0 13 11 x.toNatClampNeg + y) else (th I (mK3 M x y), 0)
def mKs (I : wI) (M : Nat) (x s : Int32) : Int32 := if oM x M = true then 1 else if I 13 6 x.toNatClampNeg = s then 0 else 2
def mO6 (I : wI) (M : Nat) (x y : Int32) : wI × Int32 := if mKs I M x 3 = 0 then (upI (th I 0) 13 6 x.toNatClampNeg (if y = 0 then 2 else 0), I 13 12 x.toNatClampNeg) else (th I (mKs I M x 3), 0)
def mO7 (I : wI) (M : Nat) (x : Int32) : wI × Int32 := if mKs I M x 2 = 0 then (upI (th I 0) 13 6 x.toNatClampNeg 4, I 13 11 x.toNatClampNeg) else (th I (mKs I M x 2), 0)
def mK5 (I : wI) (M : Nat) (x : Int32) : Int32 := if oM x M = true then 1 else if I 13 6 x.toNatClampNeg = 2 ∧ 0 ≤ I 13 11 x.toNatClampNeg then 0 else 2
def mFe (I : wI) (m : Nat) (fee : Int32) : Int32 := if I 13 4 (mf I m) = 0 then fee else 0
def mO5 (I : wI) (M : Nat) (x : Int32) : wI × Int32 := if mK5 I M x = 0 then (upI (upI (th I 0) 13 6 x.toNatClampNeg 3) 13 11 x.toNatClampNeg (I 13 11 x.toNatClampNeg - mFe I x.toNatClampNeg 80), I 13 11 x.toNatClampNeg - mFe I x.toNatClampNeg 80) else (th I (mK5 I M x), 0)
def mdS (m h : Nat) (s : wI × Int32) : wI × Int32 := if mm s.1 h = m ∧ s.1 13 14 h = 0 then (upI (mLv h s.1) 13 14 h 3, s.2 + 1) else s
def mdL (m : Nat) : Nat → Nat → wI × Int32 → wI × Int32
  | 0, _, s => s
  | n + 1, h, s => mdL m n (h + 1) (mdS m h s)
def mO4 (I : wI) (M N : Nat) (x : Int32) : wI × Int32 := if mKs I M x 1 = 0 then mdL x.toNatClampNeg N 0 (upI (th I 0) 13 6 x.toNatClampNeg 2, 0) else (th I (mKs I M x 1), 0)
theorem MI.th {M N : Nat} {I : wI} (X : MI M N I) {v : Int32} : MI M N (th I v) := X.up _ (by omega)
theorem th_off {I : wI} {v : Int32} {k j c : Nat} (h : ¬ (k = 12 ∧ j = 0 ∧ c = 0)) : th I v k j c = I k j c := by unfold th; rw [upI_at, if_neg h]
theorem MI.lv {M N : Nat} {j m : Nat} (hm : m < M) : ∀ (n k : Nat) (I : wI), MI M N I → MI M N (mLvL j m n k I)
  | 0, _, _, X => X
  | n + 1, k, I, X => MI.lv hm n (k + 1) _ (by
    unfold mLvS
    split
    · exact (X.up22 (p := m + 1) (by omega) (nI_1 m)).up _ (by omega)
    · exact X.up _ (by omega))
theorem MI.lv' {M N : Nat} {I : wI} (X : MI M N I) {h : Nat} (hh : h < N) : MI M N (mLv h I) := by
  unfold mLv
  split
  · exact X
  · exact MI.lv (X.mtM hh) _ _ _ X
theorem MI.c0 {M N : Nat} {j m : Nat} : ∀ (n k : Nat) (I : wI), MI M N I → MI M N (mC0L j m n k I)
  | 0, _, _, X => X
  | n + 1, k, I, X => MI.c0 n (k + 1) _ ((X.up _ (by omega)).up _ (by omega))
theorem MI.cm {M N : Nat} {j m : Nat} : ∀ (n k : Nat) (I : wI), MI M N I → MI M N (mCmL j m n k I)
  | 0, _, _, X => X
  | n + 1, k, I, X => MI.cm n (k + 1) _ (by
    unfold mCmS
    by_cases hp : mpy I (mAt I j k) = 0 ∨ mpy I (mAt I j k) = m + 1
    · simp only [if_pos hp]
      exact (((X.up22 (p := 0) (by omega) rfl).up _ (by omega)).up _ (by omega)).up _ (by omega)
    · simp only [if_neg hp]
      exact ((((X.up _ (by omega)).up22 (p := 0) (by omega) rfl).up _ (by omega)).up _ (by omega)).up _ (by omega))
theorem MI.cm' {M N : Nat} {I : wI} (X : MI M N I) {h : Nat} : MI M N (mCm h I) := by
  unfold mCm
  split
  · exact MI.c0 _ _ _ X
  · exact MI.cm _ _ _ X
def mbL (I : wI) : Nat → Nat → Int32 → Int32
  | 0, _, x => x
  | n + 1, m, x => mbL I n (m + 1) (x + I 13 11 m)
end WModel4

section WModel5
theorem up12_13 (I : wI) (v : Int32) (j c : Nat) : upI I 12 0 0 v 13 j c = I 13 j c := by rw [upI_at, if_neg (by omega)]
theorem up12_1 (I : wI) (v : Int32) : upI I 12 0 0 v 12 0 1 = I 12 0 1 := by rw [upI_at, if_neg (by omega)]
theorem inR_iff {x lo hi : Int32} : inR x lo hi = true ↔ lo.toInt ≤ x.toInt ∧ x.toInt ≤ hi.toInt := by
  simp only [inR, Bool.and_eq_true, Bool.not_eq_true', decide_eq_false_iff_not, Int32.lt_iff_toInt_lt]
  omega
theorem nI_nat {x : Int32} (h : 0 ≤ x.toInt) : x = nI x.toInt.toNat := by
  obtain ⟨j, hj, e⟩ := nI_of (x := x) (by rw [Int32.lt_iff_toInt_lt, Int32.toInt_zero]; omega)
  rw [e, nI_toInt hj]
  simp
theorem inR_lo {y : Int32} {lo hi : Nat} (hlo : lo < 2 ^ 31) (hhi : hi < 2 ^ 31) (h : inR y (nI lo) (nI hi) = true) : ∃ k, lo ≤ k ∧ k ≤ hi ∧ y = nI k := by
  rw [inR_iff, nI_toInt hlo, nI_toInt hhi] at h
  exact ⟨y.toInt.toNat, by omega, by omega, nI_nat (by omega)⟩
theorem inR_fr {a now : Int32} {nw : Nat} (hn : now = nI nw) (hnw : nw ≤ 1000) (h : inR a (now + 1) 999 = true) : ∃ f, f ≤ 999 ∧ nw < f ∧ a = nI f := by
  rw [hn, nI_1] at h
  obtain ⟨k, h1, h2, h3⟩ := inR_lo (lo := nw + 1) (hi := 999) (by omega) (by omega) h
  exact ⟨k, h2, by omega, h3⟩
theorem inR_sp {w : Int32} (h : inR w (-1) 3 = true) : w = -1 ∨ ∃ s, s < 4 ∧ w = nI s := by
  rw [inR_iff, show (-1 : Int32).toInt = -1 from by decide, show (3 : Int32).toInt = 3 from by decide] at h
  by_cases e : w.toInt = -1
  · exact Or.inl (Int32.toInt_inj.mp (e.trans (by decide)))
  · exact Or.inr ⟨w.toInt.toNat, by omega, nI_nat (by omega)⟩
def mBase (I : wI) (N : Nat) (x r w a y : Int32) : wI := upI (upI (upI (upI (upI (upI (th I 0) 12 0 13 (nI (N + 1))) 13 15 N x) 13 16 N r) 13 17 N w) 13 18 N a) 13 19 N y
theorem MI.plan {M N : Nat} {I : wI} (X : MI M N I) (hN : N < 24) {j k f : Nat} {r w : Int32} (hj : j < M) (hk : k ≤ 4) (hf : f ≤ 999) (hw : w = -1 ∨ ∃ s, s < 4 ∧ w = nI s) : MI M (N + 1) (mBase I N (nI j) r w (nI f) (nI k)) := by
  have hM := X.1
  refine ⟨X.1, by omega, ?_, ?_, fun h hh => ?_, fun h hh => ?_, fun h hh => ?_, fun h hh => ?_, fun m hm => ?_, fun q hq => ?_⟩
  · simp [mBase, th, upI_at]; exact X.2.2.1
  · simp [mBase, th, upI_at]
  · by_cases e : h = N
    · subst e
      simp [mm, mBase, th, upI_at]
      rw [nI_clamp (by omega)]
      exact ⟨rfl, hj⟩
    · have := X.2.2.2.2.1 h (by omega)
      simp [mm, mBase, th, upI_at, e]
      exact this
  · by_cases e : h = N
    · subst e
      simp [mh, mBase, th, upI_at]
      rw [nI_clamp (by omega)]
      exact ⟨rfl, hk⟩
    · have := X.2.2.2.2.2.1 h (by omega)
      simp [mh, mBase, th, upI_at, e]
      exact this
  · by_cases e : h = N
    · subst e
      simp [msp, mBase, th, upI_at]
      rcases hw with hw | ⟨s, h1, h2⟩
      · exact Or.inl hw
      · refine Or.inr ?_
        rw [h2, nI_clamp (by omega)]
        exact ⟨rfl, h1⟩
    · have := X.2.2.2.2.2.2.1 h (by omega)
      simp [msp, mBase, th, upI_at, e]
      exact this
  · by_cases e : h = N
    · subst e
      simp [mfr, mBase, th, upI_at]
      rw [nI_clamp (by omega)]
      exact ⟨rfl, hf⟩
    · have := X.2.2.2.2.2.2.2.1 h (by omega)
      simp [mfr, mBase, th, upI_at, e]
      exact this
  · have := X.fs hm
    simp [mf, mBase, th, upI_at]
    exact this
  · have := X.py hq
    simp [mpy, mBase, th, upI_at]
    exact this
def mMv (I : wI) (j : Nat) (r w a : Int32) : wI := upI (upI (upI (upI I 13 16 j r) 13 17 j w) 13 18 j a) 13 20 j 0
theorem MI.mv {M N : Nat} {I : wI} (X : MI M N I) {j f : Nat} {r w : Int32} (hf : f ≤ 999) (hw : w = -1 ∨ ∃ s, s < 4 ∧ w = nI s) : MI M N (mMv I j r w (nI f)) := by
  have hM := X.1
  refine ⟨X.1, X.2.1, ?_, ?_, fun h hh => ?_, fun h hh => ?_, fun h hh => ?_, fun h hh => ?_, fun m hm => ?_, fun q hq => ?_⟩
  · simp [mMv, upI_at]; exact X.2.2.1
  · simp [mMv, upI_at]; exact X.2.2.2.1
  · have := X.2.2.2.2.1 h hh
    simp [mm, mMv, upI_at]
    exact this
  · have := X.2.2.2.2.2.1 h hh
    simp [mh, mMv, upI_at]
    exact this
  · by_cases e : h = j
    · subst e
      simp [msp, mMv, upI_at]
      rcases hw with hw | ⟨s, h1, h2⟩
      · exact Or.inl hw
      · refine Or.inr ?_
        rw [h2, nI_clamp (by omega)]
        exact ⟨rfl, h1⟩
    · have := X.2.2.2.2.2.2.1 h hh
      simp [msp, mMv, upI_at, e]
      exact this
  · by_cases e : h = j
    · subst e
      simp [mfr, mMv, upI_at]
      rw [nI_clamp (by omega)]
      exact ⟨rfl, hf⟩
    · have := X.2.2.2.2.2.2.2.1 h hh
      simp [mfr, mMv, upI_at, e]
      exact this
  · have := X.fs hm
    simp [mf, mMv, upI_at]
    exact this
  · have := X.py hq
    simp [mpy, mMv, upI_at]
    exact this
def mK8 (I : wI) (M N : Nat) (x r w a y : Int32) : Int32 := if oM x M = true ∨ inR r 0 3 = false ∨ inR w (-1) 3 = false then 1 else if inR a (I 12 0 1 + 1) 999 = false ∨ inR y 1 4 = false then 2 else if mOp I x.toNatClampNeg = false ∨ mFit I x.toNatClampNeg w = false ∨ N = 24 ∨ ¬ mRe I N x.toNatClampNeg r w a y (-1) ≤ 0 then 3 else 0
def mO8 (I : wI) (M N : Nat) (x r w a y : Int32) : wI × Int32 := if mK8 I M N x r w a y = 0 then (mCm N (mBase I N x r w a y), nI N) else (th I (mK8 I M N x r w a y), 0)
def mK9 (I : wI) (N : Nat) (x r w a : Int32) : Int32 := if oM x N = true ∨ inR r 0 3 = false ∨ inR w (-1) 3 = false then 1 else if inR a (I 12 0 1 + 1) 999 = false then 2 else if ¬ I 13 14 x.toNatClampNeg = 0 ∨ I 13 18 x.toNatClampNeg ≤ I 12 0 1 ∨ mFit I (mm I x.toNatClampNeg) w = false ∨ ¬ mRe I N (mm I x.toNatClampNeg) r w a (I 13 19 x.toNatClampNeg) x ≤ 0 then 3 else 0
def mB9 (I : wI) (x r w a : Int32) : wI := mCm x.toNatClampNeg (mMv (mLv x.toNatClampNeg (th I 0)) x.toNatClampNeg r w a)
def mO9 (I : wI) (N : Nat) (x r w a : Int32) : wI × Int32 := if mK9 I N x r w a = 0 then (mB9 I x r w a, mB9 I x r w a 13 11 (mm I x.toNatClampNeg)) else (th I (mK9 I N x r w a), 0)
def mK10 (I : wI) (N : Nat) (x : Int32) : Int32 := if oM x N = true then 1 else if ¬ I 13 14 x.toNatClampNeg = 0 ∨ ¬ I 12 0 1 < I 13 18 x.toNatClampNeg then 2 else 0
def mB10 (I : wI) (x : Int32) : wI := upI (mLv x.toNatClampNeg (th I 0)) 13 14 x.toNatClampNeg 3
def mO10 (I : wI) (N : Nat) (x : Int32) : wI × Int32 := if mK10 I N x = 0 then (mB10 I x, mB10 I x 13 11 (mm (mB10 I x) x.toNatClampNeg)) else (th I (mK10 I N x), 0)
def mK11 (I : wI) (N : Nat) (x y : Int32) : Int32 := if oM x N = true ∨ inR y 0 5 = false then 1 else if ¬ I 13 8 (mm I x.toNatClampNeg) = y ∧ ¬ I 13 9 (mm I x.toNatClampNeg) = y then 2 else if I 13 14 x.toNatClampNeg = 0 then 0 else 3
def mO11 (I : wI) (N : Nat) (x y : Int32) : wI × Int32 := if mK11 I N x y = 0 then (upI (th I 0) 13 20 x.toNatClampNeg (I 13 20 x.toNatClampNeg ||| (if I 13 18 x.toNatClampNeg - I 12 0 1 < 4 then 0 else if I 13 8 (mm I x.toNatClampNeg) = y then 1 else 2)), if I 13 18 x.toNatClampNeg - I 12 0 1 < 4 then 0 else 1) else (th I (mK11 I N x y), 0)
def mK13 (M : Nat) (x r w a y : Int32) : Int32 := if oM x M = true ∨ inR r 0 3 = false ∨ inR w (-1) 3 = false then 1 else if inR a 0 999 = false ∨ inR y 1 4 = false then 2 else 0
def mO13 (I : wI) (M N : Nat) (x r w a y : Int32) : wI × Int32 := if mK13 M x r w a y = 0 then (th I 0, mRe (th I 0) N x.toNatClampNeg r w a y (-1)) else (th I (mK13 M x r w a y), 0)
def mK15 (M : Nat) (x y : Int32) : Int32 := if oM x M = true then 1 else if inR y 0 7 = true then 0 else 2
def mV15 (I : wI) (nw m : Nat) (y : Int32) : Int32 := if y = 0 then I 13 6 m else if y = 1 then I 13 7 m else if y = 2 then I 13 8 m else if y = 3 then I 13 9 m else if y = 4 then I 13 10 m else if y = 5 then I 13 11 m else if y = 6 then I 13 12 m else tcO (th I 0) (nI m) nw 4 0 0
def mO15 (I : wI) (M nw : Nat) (x y : Int32) : wI × Int32 := if mK15 M x y = 0 then (th I 0, mV15 I nw x.toNatClampNeg y) else (th I (mK15 M x y), 0)
def mV16 (I : wI) (h : Nat) (y : Int32) : Int32 := if y = 0 then I 13 14 h else if y = 1 then I 13 15 h else if y = 2 then I 13 16 h else if y = 3 then I 13 17 h else if y = 4 then I 13 18 h else if y = 5 then I 13 19 h else if y = 6 then (I 13 20 h &&& 1) + (I 13 20 h >>> ((1 : Int32) &&& 31)) else I 13 21 (4 * h) + I 13 21 (4 * h + 1) + I 13 21 (4 * h + 2) + I 13 21 (4 * h + 3)
def mO16 (I : wI) (N : Nat) (x y : Int32) : wI × Int32 := if mK15 N x y = 0 then (th I 0, mV16 I x.toNatClampNeg y) else (th I (mK15 N x y), 0)
def mK17 (x y : Int32) : Int32 := if inR x 0 3 = true ∧ inR y 0 1003 = true then 0 else 1
def mO17 (I : wI) (x y : Int32) : wI × Int32 := if mK17 x y = 0 then (th I 0, if y ≤ I 12 0 1 then -1 else I 13 22 (1004 * x.toNatClampNeg + y.toNatClampNeg) - 1) else (th I (mK17 x y), 0)
theorem tsw7 (x : Int32) : x = 0 ∨ x = 1 ∨ x = 2 ∨ x = 3 ∨ x = 4 ∨ x = 5 ∨ x = 6 ∨ (x.toInt < 0 ∨ 6 < x.toInt) := by
  by_cases h : x.toInt < 0 ∨ 6 < x.toInt
  · exact Or.inr (Or.inr (Or.inr (Or.inr (Or.inr (Or.inr (Or.inr h))))))
  · have h3 : x.toInt = 0 ∨ x.toInt = 1 ∨ x.toInt = 2 ∨ x.toInt = 3 ∨ x.toInt = 4 ∨ x.toInt = 5 ∨ x.toInt = 6 := by omega
    rcases h3 with h3 | h3 | h3 | h3 | h3 | h3 | h3
    · exact Or.inl (Int32.toInt_inj.mp h3)
    · exact Or.inr (Or.inl (Int32.toInt_inj.mp h3))
    · exact Or.inr (Or.inr (Or.inl (Int32.toInt_inj.mp h3)))
    · exact Or.inr (Or.inr (Or.inr (Or.inl (Int32.toInt_inj.mp h3))))
    · exact Or.inr (Or.inr (Or.inr (Or.inr (Or.inl (Int32.toInt_inj.mp h3)))))
    · exact Or.inr (Or.inr (Or.inr (Or.inr (Or.inr (Or.inl (Int32.toInt_inj.mp h3))))))
    · exact Or.inr (Or.inr (Or.inr (Or.inr (Or.inr (Or.inr (Or.inl (Int32.toInt_inj.mp h3)))))))
theorem tsw7n {x : Int32} (h : x.toInt < 0 ∨ 6 < x.toInt) : ¬ x = 0 ∧ ¬ x = 1 ∧ ¬ x = 2 ∧ ¬ x = 3 ∧ ¬ x = 4 ∧ ¬ x = 5 ∧ ¬ x = 6 := by
  refine ⟨?_, ?_, ?_, ?_, ?_, ?_, ?_⟩ <;> (intro e; rw [e] at h; revert h; decide)
end WModel5

section WModel6
def mPL (M N : Nat) : Nat → wI × Int32 → wI × Int32
  | 0, s => s
  | n + 1, s => mPL M N n ((mEn M N s.1).1, s.2 + (mEn M N s.1).2)
def mK12 (now x : Int32) : Int32 := if inR x 1 50 = true then (if ¬ now + x ≤ 1000 then 2 else 0) else 1
def mO12 (I : wI) (M N : Nat) (x : Int32) : wI × Int32 := if mK12 (I 12 0 1) x = 0 then mPL M N x.toNatClampNeg (th I 0, 0) else (th I (mK12 (I 12 0 1) x), 0)
theorem eAL_off {k j c : Nat} (h : k ≠ 13) : ∀ (n m : Nat) (I : wI), eAL n m I k j c = I k j c
  | 0, _, _ => rfl
  | n + 1, m, I => (eAL_off h n (m + 1) _).trans (by unfold eAS; rw [upI_at, if_neg (by omega)])
theorem eBS_off {k j c : Nat} (h : k ≠ 13) (m : Nat) (s : wI × Int32) : (eBS m s).1 k j c = s.1 k j c := by
  unfold eBS
  split
  · split
    · dsimp only; rw [upI_at, if_neg (by omega), upI_at, if_neg (by omega)]
    · dsimp only; rw [upI_at, if_neg (by omega), upI_at, if_neg (by omega)]
  · rfl
theorem eBL_off {k j c : Nat} (h : k ≠ 13) : ∀ (n m : Nat) (s : wI × Int32), (eBL n m s).1 k j c = s.1 k j c
  | 0, _, _ => rfl
  | n + 1, m, s => (eBL_off h n (m + 1) _).trans (eBS_off h m s)
theorem eCL_off {k j c : Nat} (h : k ≠ 13) : ∀ (n m : Nat) (I : wI), eCL n m I k j c = I k j c
  | 0, _, _ => rfl
  | n + 1, m, I => (eCL_off h n (m + 1) _).trans (by unfold eCS; rw [upI_at, if_neg (by omega)])
theorem mEn_off {M N : Nat} {I : wI} {k j c : Nat} (h : k ≠ 13) (h2 : ¬ (k = 12 ∧ j = 0 ∧ c = 1)) : (mEn M N I).1 k j c = I k j c := by
  unfold mEn
  dsimp only
  rw [eCL_off h, eBL_off h]
  show eN (eAL M 0 I) k j c = _
  unfold eN
  rw [upI_at, if_neg h2, eAL_off h]
def mIts (I : wI) (what who : Int32) (h : Nat) : Bool := if what = 0 then decide (I 13 16 h = who) else if what = 1 then decide (I 13 7 (mm I h) = who) else if what = 2 then decide (I 13 8 (mm I h) = who ∨ I 13 9 (mm I h) = who) else decide (I 13 17 h = who)
def mAS (I : wI) (what who hr : Int32) (h : Nat) (x : Int32) : Int32 := if mIts I what who h = true ∧ I 13 14 h = 0 ∧ mt4 (I 13 18 h) (I 13 19 h) hr 1 = true then nI h else x
def mAL (I : wI) (what who hr : Int32) : Nat → Nat → Int32 → Int32
  | 0, _, x => x
  | n + 1, h, x => mAL I what who hr n (h + 1) (mAS I what who hr h x)
def mK14 (x y w : Int32) : Int32 := if inR x 0 3 = true then (if inR y 0 (if x = 2 then 5 else 3) = true ∧ inR w 0 1003 = true then 0 else 2) else 1
def mO14 (I : wI) (N : Nat) (x y w : Int32) : wI × Int32 := if mK14 x y w = 0 then (th I 0, mAL (th I 0) x y w N 0 (-1)) else (th I (mK14 x y w), 0)
end WModel6

