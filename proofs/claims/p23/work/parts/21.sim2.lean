section WSim2
variable {z z' : wZ} {nw nw' : Nat} {I I' : wI} {P P' : wP} {J J' : wI}
theorem s_waive (S : Sim z nw I P J) {x y : Int32} (hy : y = 0 ∨ y = 1) : OpR z z nw nw I (upI I 5 0 x.toNatClampNeg y) P P (cK1 x) (I 5 0 x.toNatClampNeg) (mO1 J x y) := by
  have e : cK1 x = mK1 x := by
    unfold cK1 mK1 inR
    have h0 : (0 : Int32).toInt = 0 := by decide
    have h5 : (5 : Int32).toInt = 5 := by decide
    have h6 : (6 : Int32).toInt = 6 := by decide
    by_cases a : x < 0
    · simp [a]
    · by_cases b : x < 6
      · have c : ¬ 5 < x := by rw [Int32.lt_iff_toInt_lt] at b ⊢; omega
        simp [a, b, c]
      · have c : 5 < x := by rw [Int32.lt_iff_toInt_lt] at b ⊢; omega
        simp [a, b, c]
  refine OpR.mk S e (fun _ => by simp [upI_at, th]) (fun h => ?_)
  have hx : inR x 0 5 = true := by
    unfold mK1 at h
    split at h
    · assumption
    · exact absurd h (by decide)
  obtain ⟨i, hi, rfl⟩ := inR_of (n := 5) (by decide) hx
  have hc : (nI i).toNatClampNeg = i := nI_clamp (by omega)
  rw [hc]
  have hSW := S.A.w
  refine ⟨?_, S.of (fun k _ => k = 5) (fun f => f = 4) (fun k j c _ h => by rw [upI_kind h]) (fun f c h => by simp only [upI_at, th]; rw [if_neg (by omega), if_neg (by omega)]) (fun _ _ => rfl) (XI.upI S.X _ (by omega) (by omega) (by omega)) ((S.thr 0).M.up _ (by omega)) (Or.inl ⟨by simp, by simp [upI_at, th]⟩) (Or.inl (by simp)) (Or.inr fun q hq => ?_) (Or.inl (by simp)) (Or.inl (by simp)) (Or.inl (by simp)) (Or.inl (by simp)) (Or.inl (by simp)) (Or.inl (by simp)) (Or.inl (by simp)) (Or.inl (by simp)) (Or.inl (by simp))⟩
  · rw [th_13]; exact (hSW i (by omega)).1
  · have := hSW q hq
    simp only [upI_at, th]
    by_cases h : q = i
    · subst h; simp [hy]
    · simp [h, this]
theorem s_pay (S : Sim z nw I P J) {x y : Int32} : OpR z z nw nw I (upI I 2 x.toNatClampNeg 6 (I 2 x.toNatClampNeg 6 + y)) P P (cK3 z.1 x y) (I 2 x.toNatClampNeg 6 + y) (mO3 J z.1 x y) := by
  have e : cK3 z.1 x y = mK3 z.1 x y := by
    unfold cK3 mK3
    cases oM x z.1
    · by_cases a : y < 1 ∨ 9999 < y
      · simp [a, inR_pos]
      · simp [a, inR_pos]
    · simp
  refine OpR.mk S e (fun _ => by simp [upI_at, th]) (fun h => ?_)
  have hx : oM x z.1 = false := by
    unfold mK3 at h
    split at h
    · exact absurd h (by decide)
    · simpa using ‹¬ oM x z.1 = true›
  obtain ⟨i, hi, rfl⟩ := oM_of hx (by have := S.X.1; omega)
  have hc : (nI i).toNatClampNeg = i := nI_clamp (by have := S.X.1; omega)
  rw [hc, th_13]
  have hB := S.B i hi
  exact ⟨by rw [hB], (S.thr 0).bal (by rw [hB])⟩
theorem cKs_eq (S : Sim z nw I P J) {x s : Int32} : cKs I z.1 x s = mKs J z.1 x s := by
  unfold cKs mKs
  cases hx : oM x z.1
  · obtain ⟨i, hi, rfl⟩ := oM_of hx (by have := S.X.1; omega)
    have hc : (nI i).toNatClampNeg = i := nI_clamp (by have := S.X.1; omega)
    rw [hc, S.A.st hi]
  · rfl
theorem mKs_of {M : Nat} {x s : Int32} (h : mKs J M x s = 0) (hM : M ≤ 12) : ∃ i, i < M ∧ x = nI i ∧ x.toNatClampNeg = i ∧ J 13 6 i = s := by
  unfold mKs at h
  split at h
  · exact absurd h (by decide)
  · split at h
    · next h1 h2 =>
      obtain ⟨i, hi, rfl⟩ := oM_of (by simpa using h1) (by omega : M < 2 ^ 31)
      have hc : (nI i).toNatClampNeg = i := nI_clamp (by omega)
      rw [hc] at h2
      exact ⟨i, hi, rfl, hc, h2⟩
    · exact absurd h (by decide)
theorem Sim.stt (S : Sim z nw I P J) {m : Nat} (hm : m < z.1) (v : Int32) : Sim z nw (upI I 2 m 5 v) P (upI J 13 6 m v) := by
  refine S.of (fun k c => k = 2 ∧ c = 5) (fun f => f = 6) (fun k j c _ h => by rw [upI_at, if_neg (by omega)]) (fun f c h => by rw [upI_at, if_neg (by omega)]) (fun _ _ => rfl) (XI.upI S.X _ (by omega) (by omega) (by omega)) (S.M.up _ (by omega)) (Or.inl ⟨by simp, by rw [upI_at, if_neg (by omega)]⟩) (Or.inl (by simp)) (Or.inl (by simp)) (Or.inr fun q hq => ?_) (Or.inl (by simp)) (Or.inr ⟨fun q h1 h2 => ?_, fun q h1 h2 => ?_⟩) (Or.inl (by simp)) (Or.inl (by simp)) (Or.inl (by simp)) (Or.inl (by simp)) (Or.inl (by simp)) (Or.inl (by simp))
  · have := S.A.m hq
    unfold MR at this ⊢
    by_cases h : q = m
    · subst h; simp [upI_at, this]
    · simp [upI_at, h]
      simpa using this
  · rw [upI_at, if_neg (by omega)]; exact S.A.f.1 q h1 h2
  · rw [upI_at, if_neg (by omega), upI_at, if_neg (by omega)]; exact S.A.f.2 q h1 h2
theorem s_close (S : Sim z nw I P J) {x : Int32} : OpR z z nw nw I (upI I 2 x.toNatClampNeg 5 4) P P (cKs I z.1 x 2) (I 2 x.toNatClampNeg 6) (mO7 J z.1 x) := by
  refine OpR.mk S (cKs_eq S) (fun _ => by simp [upI_at, th]) (fun h => ?_)
  obtain ⟨i, hi, rfl, hc, h2⟩ := mKs_of h S.X.1
  rw [hc]
  exact ⟨S.B i hi, (S.thr 0).stt hi 4⟩
theorem s_settle (S : Sim z nw I P J) {x y : Int32} : OpR z z nw nw I (upI I 2 x.toNatClampNeg 5 (if y = 0 then 2 else 0)) P P (cKs I z.1 x 3) (I 2 x.toNatClampNeg 7) (mO6 J z.1 x y) := by
  refine OpR.mk S (cKs_eq S) (fun _ => by simp [upI_at, th]) (fun h => ?_)
  obtain ⟨i, hi, rfl, hc, h2⟩ := mKs_of h S.X.1
  rw [hc]
  exact ⟨S.A.e i hi, (S.thr 0).stt hi _⟩
theorem ff_mFe (S : Sim z nw I P J) {m : Nat} (hm : m < z.1) {fee : Int32} : ff I m fee = mFe J m fee := by
  have h1 : fsN I m = mf J m := by unfold fsN mf; rw [(S.A.m hm).2.2.1]
  unfold ff mFe
  rw [h1, (S.A.w (mf J m) (S.M.fs hm).2).1]
theorem cK5_eq (S : Sim z nw I P J) {x : Int32} : cK5 I z.1 x = mK5 J z.1 x := by
  unfold cK5 mK5
  cases hx : oM x z.1
  · obtain ⟨i, hi, rfl⟩ := oM_of hx (by have := S.X.1; omega)
    have hc : (nI i).toNatClampNeg = i := nI_clamp (by have := S.X.1; omega)
    rw [hc, S.A.st hi, S.B i hi]
  · simp
theorem mK5_of {M : Nat} {x : Int32} (h : mK5 J M x = 0) (hM : M ≤ 12) : ∃ i, i < M ∧ x = nI i ∧ x.toNatClampNeg = i := by
  unfold mK5 at h
  split at h
  · exact absurd h (by decide)
  · next h1 =>
    obtain ⟨i, hi, rfl⟩ := oM_of (by simpa using h1) (by omega : M < 2 ^ 31)
    exact ⟨i, hi, rfl, nI_clamp (by omega)⟩
theorem s_appeal (S : Sim z nw I P J) {x : Int32} : OpR z z nw nw I (cO5 I x) P P (cK5 I z.1 x) (I 2 x.toNatClampNeg 6 - ff I x.toNatClampNeg 80) (mO5 J z.1 x) := by
  refine OpR.mk S (cK5_eq S) (fun _ => by simp [upI_at, th]) (fun h => ?_)
  obtain ⟨i, hi, rfl, hc⟩ := mK5_of h S.X.1
  unfold cO5
  rw [hc]
  generalize hf : ff I i 80 = f
  generalize hg : mFe J i 80 = f2
  have e2 : f = f2 := by rw [← hf, ← hg]; exact ff_mFe S hi
  subst e2
  rw [S.B i hi]
  exact ⟨rfl, ((S.thr 0).stt hi 3).bal rfl⟩
theorem blL_eq (S : SB z.1 I J) : ∀ (n m : Nat) (x : Int32), m + n = z.1 → blL I n m x = mbL J n m x
  | 0, _, _, _ => rfl
  | n + 1, m, x, h => by
    unfold blL mbL
    rw [S m (by omega)]
    exact blL_eq S n (m + 1) _ (by omega)
theorem s_balances (S : Sim z nw I P J) : blL I z.1 0 0 = mbL (th J 0) z.1 0 0 ∧ Sim z nw I P (th J 0) := ⟨blL_eq (S.thr 0).B z.1 0 0 (by omega), S.thr 0⟩
theorem s_hour (S : Sim z nw I P J) : I 0 0 6 = J 12 0 1 ∧ Sim z nw I P (th J 0) := ⟨S.eI, S.thr 0⟩
theorem py_some {i q : Nat} {a b : Int32} (h : py I P i a b = some q) : P 9 i (rg a) = some q ∧ I 8 i (rg a) = a ∧ ¬ a ≤ b := by
  unfold py at h
  split at h
  · next h1 => exact ⟨h, h1.2, h1.1⟩
  · cases h
theorem ich_inR (y : Int32) : ich y = inR y 0 1003 := rfl
theorem s_paidBy (S : Sim z nw I P J) {x y : Int32} : OpR z z nw nw I I P P (cK17 x y) (cV17 I P x y) (mO17 J x y) := by
  have e : cK17 x y = mK17 x y := by
    unfold cK17 mK17
    rw [oM4, ich_inR]
    cases inR x 0 3 <;> cases inR y 0 1003 <;> simp
  refine OpR.mk S e (fun _ => by simp [upI_at, th]) (fun h => ?_)
  have hx : inR x 0 3 = true ∧ inR y 0 1003 = true := by
    unfold mK17 at h
    split at h
    · assumption
    · exact absurd h (by decide)
  obtain ⟨i, hi, rfl⟩ := inR_of (n := 3) (by decide) hx.1
  obtain ⟨t, ht, rfl⟩ := inR_of (n := 1003) (by decide) hx.2
  have hc : (nI i).toNatClampNeg = i := nI_clamp (by omega)
  have hc2 : (nI t).toNatClampNeg = t := nI_clamp (by omega)
  refine ⟨?_, S.thr 0⟩
  unfold cV17
  obtain ⟨n1, n2, n3⟩ := S.A.n
  rw [hc, hc2, n1, n2]
  by_cases hl : t ≤ nw
  · rw [if_pos (nI_le hl (by omega))]
    have : py I P i (nI t) (nI nw) = none := by unfold py; rw [if_neg (fun q => q.1 (nI_le hl (by omega)))]
    rw [this]
  · rw [if_neg (nI_ge (by omega) (by omega))]
    obtain ⟨h1, -⟩ := (S.D i (by omega)).1 t (by omega) ht
    rw [h1]
    rcases hp : py I P i (nI t) (nI nw) with _ | q
    · rfl
    · have hq := S.X.h9 (z := z) (i := i) (show i < 4 by omega) (rg_lt _) (py_some hp).1
      exact (S.A.m hq).1.trans (nI_pred q).symm
theorem HT.ntc {a b c : Int32} (h : HT a b c) : (if a = 0 then (0 : Int32) else 1) + (if b = 0 then 0 else 1) = (c &&& 1) + (c >>> ((1 : Int32) &&& 31)) := by
  rcases h with ⟨rfl, rfl, rfl⟩ | ⟨rfl, rfl, rfl⟩ | ⟨rfl, rfl, rfl⟩ | ⟨rfl, rfl, rfl⟩ <;> decide
theorem cK15_eq {M : Nat} {x y : Int32} : cK15 M x y = mK15 M x y := by
  unfold cK15 mK15
  rw [inn8]
theorem mK15_of {M : Nat} {x y : Int32} (h : mK15 M x y = 0) (hM : M ≤ 24) : ∃ i k, i < M ∧ x = nI i ∧ x.toNatClampNeg = i ∧ k ≤ 7 ∧ y = nI k := by
  unfold mK15 at h
  split at h
  · exact absurd h (by decide)
  · split at h
    · next h1 h2 =>
      obtain ⟨i, hi, rfl⟩ := oM_of (by simpa using h1) (by omega : M < 2 ^ 31)
      obtain ⟨k, hk, rfl⟩ := inR_of (n := 7) (by decide) h2
      exact ⟨i, k, hi, rfl, nI_clamp (by omega), hk, rfl⟩
    · exact absurd h (by decide)
theorem s_hearing (S : Sim z nw I P J) {x y : Int32} : OpR z z nw nw I I P P (cK15 z.2 x y) (cV16 I P x.toNatClampNeg y) (mO16 J z.2 x y) := by
  refine OpR.mk S cK15_eq (fun _ => by simp [upI_at, th]) (fun h => ?_)
  obtain ⟨i, k, hi, rfl, hc, hk, rfl⟩ := mK15_of h S.X.2.1
  refine ⟨?_, S.thr 0⟩
  rw [hc]
  obtain ⟨a0, a1, a2, a4, a5, a6, a7, a8, a9⟩ := S.A.h hi
  obtain ⟨c1, -⟩ := S.C.1 i hi
  have hmt := S.M.mt hi
  have hmm := (S.A.m (S.mmM hi)).1
  unfold cV16 mV16 ntc chg
  rw [S.mxe hi, hmm, hmt, a2, a4, a5, a6, a7, a8.ntc, c1 0 (by decide), c1 1 (by decide), c1 2 (by decide), c1 3 (by decide)]
  simp only [Int32.zero_add, Nat.add_zero]
end WSim2
