section WSim9
variable {z z' : wZ} {nw nw' : Nat} {I I' : wI} {P P' : wP} {J J' : wI}
theorem lvR_off {h : Nat} {k j c : Nat} (hk : k ≠ 8) (hk2 : k ≠ 10) (hk3 : k ≠ 2) : (lvR I P h).1 k j c = I k j c := by
  have hl : ∀ (i m n k' : Nat) (s : wI × wP), (lvL i m h n k' s).1 k j c = s.1 k j c := by
    intro i m n
    induction n with
    | zero => intro k' s; rfl
    | succ n ih =>
      intro k' s
      show (lvL i m h n (k' + 1) (lvS i m h k' s)).1 k j c = _
      rw [ih]
      unfold lvS kpI
      dsimp only
      rw [upI_at, if_neg (by omega), upI_at, if_neg (by omega)]
  unfold lvR
  split
  · split
    · rfl
    · exact hl _ _ _ _ _
  · show upI I 2 _ 6 _ k j c = _
    rw [upI_at, if_neg (by omega)]
theorem mLv_off {h g x : Nat} (h1 : g ≠ 11) (h2 : g ≠ 22) (h3 : g ≠ 23) : mLv h J 13 g x = J 13 g x := by
  have hl : ∀ (m n k' : Nat) (J : wI), mLvL h m n k' J 13 g x = J 13 g x := by
    intro m n
    induction n with
    | zero => intro k' J; rfl
    | succ n ih =>
      intro k' J
      show mLvL h m n (k' + 1) (mLvS h m k' J) 13 g x = _
      rw [ih]
      unfold mLvS
      split
      · rw [upI_at, if_neg (by omega), upI_at, if_neg (by omega)]
      · rw [upI_at, if_neg (by omega)]
  unfold mLv
  split
  · rfl
  · exact hl _ _ _ _
theorem mLv_12 {h a b : Nat} : mLv h J 12 a b = J 12 a b := by
  have hl : ∀ (m n k' : Nat) (J : wI), mLvL h m n k' J 12 a b = J 12 a b := by
    intro m n
    induction n with
    | zero => intro k' J; rfl
    | succ n ih =>
      intro k' J
      show mLvL h m n (k' + 1) (mLvS h m k' J) 12 a b = _
      rw [ih]
      unfold mLvS
      split
      · rw [upI_at, if_neg (by omega), upI_at, if_neg (by omega)]
      · rw [upI_at, if_neg (by omega)]
  unfold mLv
  split
  · rfl
  · exact hl _ _ _ _
theorem mClL_congr {v wh who at1 many but : Int32} {m : Nat} (hj : ∀ g x, g ≠ 11 → g ≠ 22 → g ≠ 23 → J' 13 g x = J 13 g x) : ∀ (n h : Nat) (b : Bool), mClL J' v m wh who at1 many but n h b = mClL J v m wh who at1 many but n h b
  | 0, _, _ => rfl
  | n + 1, h, b => by
    show mClL J' v m wh who at1 many but n (h + 1) (mClS J' v m wh who at1 many but h b) = mClL J v m wh who at1 many but n (h + 1) (mClS J v m wh who at1 many but h b)
    have e : mClS J' v m wh who at1 many but h b = mClS J v m wh who at1 many but h b := by
      unfold mClS mSame mm
      rw [hj 14 h (by decide) (by decide) (by decide), hj 16 h (by decide) (by decide) (by decide), hj 15 h (by decide) (by decide) (by decide), hj 17 h (by decide) (by decide) (by decide), hj 18 h (by decide) (by decide) (by decide), hj 19 h (by decide) (by decide) (by decide)]
      simp only [hj 7 _ (by decide) (by decide) (by decide), hj 8 _ (by decide) (by decide) (by decide), hj 9 _ (by decide) (by decide) (by decide)]
    rw [e]
    exact mClL_congr hj n (h + 1) _
theorem mRe_congr {N m : Nat} {wh who at1 many but : Int32} (hj : ∀ g x, g ≠ 11 → g ≠ 22 → g ≠ 23 → J' 13 g x = J 13 g x) : mRe J' N m wh who at1 many but = mRe J N m wh who at1 many but := by
  rw [mRe_vB, mRe_vB, mClL_congr hj, mClL_congr hj, mClL_congr hj, mClL_congr hj]
theorem cK9_eq (S : Sim z nw I P J) {x r w a : Int32} : cK9 I P z.2 x r w a = mK9 J z.2 x r w a := by
  unfold cK9 mK9
  rw [inn4, inN_inR]
  by_cases h1 : oM x z.2 = true ∨ inR r 0 3 = false ∨ inR w (-1) 3 = false
  · rw [if_pos h1, if_pos h1]
  · rw [if_neg h1, if_neg h1]
    have hx : oM x z.2 = false := by
      cases hc : oM x z.2
      · rfl
      · exact absurd (Or.inl hc) h1
    have hw : inR w (-1) 3 = true := by
      cases hc : inR w (-1) 3
      · exact absurd (Or.inr (Or.inr hc)) h1
      · rfl
    obtain ⟨i, hi, rfl, hc⟩ := oM_nI hx S.X.2.1
    obtain ⟨n1, n2, n3⟩ := S.A.n
    have hm := S.mmM hi
    have a2 := (S.A.h hi).2.2.1
    rw [hc, tbg_eq S hi, S.mxe hi, asN_fit S hm hw, cr_eq S hm (hit_some S hi), n1, n2, a2]
    have e2 : (inR a (nI nw + 1) 999 = false) ↔ (a ≤ nI nw ∨ 999 < a) := fr_neg n3
    have e3 : (¬ mRe J z.2 (mm J i) r w a (J 13 19 i) (nI i) ≤ 0) ↔ ¬ mRe J z.2 (mm J i) r w a (J 13 19 i) (nI i) = 0 := by rw [mRe_vB, vB_le]
    simp only [e2, e3, Bool.and_eq_false_iff, decide_eq_false_iff_not, Bool.not_eq_false', decide_eq_true_eq, or_assoc]
theorem mK9_of {N nw : Nat} {x r w a : Int32} (h : mK9 J N x r w a = 0) (hN : N ≤ 24) (hn : J 12 0 1 = nI nw) (hn2 : nw ≤ 1000) : ∃ i f, i < N ∧ x = nI i ∧ x.toNatClampNeg = i ∧ a = nI f ∧ nw < f ∧ f ≤ 999 ∧ (w = -1 ∨ ∃ s, s < 4 ∧ w = nI s) ∧ J 13 14 i = 0 ∧ ¬ J 13 18 i ≤ J 12 0 1 ∧ mRe J N (mm J i) r w a (J 13 19 i) (nI i) = 0 := by
  unfold mK9 at h
  split at h
  · exact absurd h (by decide)
  · next h1 =>
    have hx : oM x N = false := by
      cases hc : oM x N
      · rfl
      · exact absurd (Or.inl hc) h1
    have hw : inR w (-1) 3 = true := by
      cases hc : inR w (-1) 3
      · exact absurd (Or.inr (Or.inr hc)) h1
      · rfl
    obtain ⟨i, hi, rfl, hc⟩ := oM_nI hx hN
    rw [hc] at h
    split at h
    · exact absurd h (by decide)
    · next h2 =>
      have ha : inR a (J 12 0 1 + 1) 999 = true := by
        cases hq : inR a (J 12 0 1 + 1) 999
        · exact absurd hq h2
        · rfl
      obtain ⟨f, f1, f2, rfl⟩ := inR_fr hn hn2 ha
      split at h
      · exact absurd h (by decide)
      · next h3 =>
        have q1 : J 13 14 i = 0 := Classical.byContradiction fun q => h3 (Or.inl q)
        have q2 : ¬ J 13 18 i ≤ J 12 0 1 := fun q => h3 (Or.inr (Or.inl q))
        have q3 : mRe J N (mm J i) r w (nI f) (J 13 19 i) (nI i) ≤ 0 := Classical.byContradiction fun q => h3 (Or.inr (Or.inr (Or.inr q)))
        rw [mRe_vB, vB_le] at q3
        rw [← mRe_vB] at q3
        exact ⟨i, f, hi, rfl, hc, rfl, f2, f1, inR_sp hw, q1, q2, q3⟩
theorem mCmL_0 {j m : Nat} : ∀ (n k : Nat) (J : wI), mCmL j m n k J 12 0 0 = J 12 0 0
  | 0, _, _ => rfl
  | n + 1, k, J => by
    show mCmL j m n (k + 1) (mCmS j m k J) 12 0 0 = _
    rw [mCmL_0 n (k + 1), mCmS_eq rfl rfl rfl rfl, upI_at, if_neg (by omega), upI_at, if_neg (by omega), upI_at, if_neg (by omega), upI_at, if_neg (by omega)]
    split
    · rfl
    · rw [upI_at, if_neg (by omega)]
theorem mC0L_0 {j m : Nat} : ∀ (n k : Nat) (J : wI), mC0L j m n k J 12 0 0 = J 12 0 0
  | 0, _, _ => rfl
  | n + 1, k, J => by
    show mC0L j m n (k + 1) (mC0S j m k J) 12 0 0 = _
    rw [mC0L_0 n (k + 1)]
    unfold mC0S
    rw [upI_at, if_neg (by omega), upI_at, if_neg (by omega)]
theorem mCm_0 {j : Nat} : mCm j J 12 0 0 = J 12 0 0 := by
  unfold mCm
  split
  · exact mC0L_0 _ _ _
  · exact mCmL_0 _ _ _
theorem mCm_15 {j h : Nat} : mm (mCm j J) h = mm J h := by
  have h1 : ∀ (m n k : Nat) (J : wI), mm (mCmL j m n k J) h = mm J h := by
    intro m n
    induction n with
    | zero => intro k J; rfl
    | succ n ih =>
      intro k J
      show mm (mCmL j m n (k + 1) (mCmS j m k J)) h = _
      rw [ih]
      unfold mm
      rw [mCmS_off (by decide) (by decide) (by decide) (by decide)]
  have h2 : ∀ (m n k : Nat) (J : wI), mm (mC0L j m n k J) h = mm J h := by
    intro m n
    induction n with
    | zero => intro k J; rfl
    | succ n ih =>
      intro k J
      show mm (mC0L j m n (k + 1) (mC0S j m k J)) h = _
      rw [ih]
      unfold mm mC0S
      rw [upI_at, if_neg (by omega), upI_at, if_neg (by omega)]
  unfold mCm
  split
  · exact h2 _ _ _ _
  · exact h1 _ _ _ _
theorem s_move (S : Sim z nw I P J) {x r w a : Int32} : OpR z z nw nw I (cO9 I P x r w a).1 P (cO9 I P x r w a).2 (cK9 I P z.2 x r w a) ((cO9 I P x r w a).1 2 (mx (cO9 I P x r w a).2 x.toNatClampNeg) 6) (mO9 J z.2 x r w a) := by
  obtain ⟨n1, n2, n3⟩ := S.A.n
  have key : mK9 J z.2 x r w a = 0 → Sim z nw (cO9 I P x r w a).1 (cO9 I P x r w a).2 (mB9 J x r w a) ∧ ∃ i, i < z.2 ∧ x.toNatClampNeg = i ∧ mm (mB9 J x r w a) i = mm J i := fun h => by
    obtain ⟨i, f, hi, rfl, hc, rfl, f1, f2, hw, q1, q2, q3⟩ := mK9_of h S.X.2.1 n2 n3
    have hfr : nw < mfr J i := by rw [from_gt S hi] at q2; omega
    have S2 := leave_sim (S.thr 0) hi (show nw < mfr (th J 0) i by unfold mfr at hfr ⊢; rw [th_13]; exact hfr)
    have hj : ∀ g x, g ≠ 11 → g ≠ 22 → g ≠ 23 → mLv i (th J 0) 13 g x = J 13 g x := fun g x a b c => by rw [mLv_off a b c, th_13]
    have hmm : mm (mLv i (th J 0)) i = mm J i := by unfold mm; rw [hj 15 _ (by decide) (by decide) (by decide)]
    have p := mv_base S2 (r := r) (w := w) hi (by rw [hj 14 _ (by decide) (by decide) (by decide)]; exact q1) f1 f2 hw (by rw [hmm, hj 19 _ (by decide) (by decide) (by decide), mRe_congr hj]; exact q3)
    rw [hmm] at p
    have hm3 : mm (mMv (mLv i (th J 0)) i r w (nI f)) i = mm J i := by
      rw [← hmm]
      unfold mm mMv
      rw [upI_at, if_neg (by omega), upI_at, if_neg (by omega), upI_at, if_neg (by omega), upI_at, if_neg (by omega)]
    have h3 : Sim z nw (cO9 I P (nI i) r w (nI f)).1 (cO9 I P (nI i) r w (nI f)).2 (mB9 J (nI i) r w (nI f)) := by
      unfold cO9 mB9
      rw [hc]
      refine put_sim p hi hm3 (by rw [S2.mxe hi, hmm]) (by rw [S2.hr hi]; unfold mh mMv; rw [upI_at, if_neg (by omega), upI_at, if_neg (by omega), upI_at, if_neg (by omega), upI_at, if_neg (by omega)]) S2.A.n.1 ?_ ?_ rfl f1 f2 hw
      · unfold mMv; simp [upI_at]
      · unfold mMv; simp [upI_at]
    refine ⟨h3, i, hi, hc, ?_⟩
    unfold mB9
    rw [hc, mCm_15, hm3]
  refine OpR.mk S (cK9_eq S) (fun h => ?_) (fun h => ?_)
  · unfold mB9 mMv
    rw [mCm_0, upI_at, if_neg (by omega), upI_at, if_neg (by omega), upI_at, if_neg (by omega), upI_at, if_neg (by omega), mLv_0]
    exact thv J 0
  · obtain ⟨S3, i, hi, hc, hm⟩ := key h
    refine ⟨?_, S3⟩
    rw [hc, S3.mxe hi, hm]
    exact S3.B _ (S.mmM hi)
theorem HT.or0 {a b c : Int32} (h : HT a b c) : HT a b (c ||| 0) := by
  rcases h with ⟨rfl, rfl, rfl⟩ | ⟨rfl, rfl, rfl⟩ | ⟨rfl, rfl, rfl⟩ | ⟨rfl, rfl, rfl⟩ <;> unfold HT <;> decide
theorem HT.or1 {a b c : Int32} (h : HT a b c) : HT 1 b (c ||| 1) := by
  rcases h with ⟨rfl, rfl, rfl⟩ | ⟨rfl, rfl, rfl⟩ | ⟨rfl, rfl, rfl⟩ | ⟨rfl, rfl, rfl⟩ <;> unfold HT <;> decide
theorem HT.or2 {a b c : Int32} (h : HT a b c) : HT a 1 (c ||| 2) := by
  rcases h with ⟨rfl, rfl, rfl⟩ | ⟨rfl, rfl, rfl⟩ | ⟨rfl, rfl, rfl⟩ | ⟨rfl, rfl, rfl⟩ <;> unfold HT <;> decide
theorem Sim.tell (S : Sim z nw I P J) {h : Nat} (hh : h < z.2) {v : Int32} (hI : ∀ k j c, ¬ (k = 3 ∧ j = h ∧ (c = 8 ∨ c = 9)) → I' k j c = I k j c) (ht : HT (I' 3 h 8) (I' 3 h 9) v) : Sim z nw I' P (upI J 13 20 h v) := by
  have hJ : ∀ f x, f ≠ 20 ∨ x ≠ h → upI J 13 20 h v 13 f x = J 13 f x := fun f x hf => by rw [upI_at, if_neg (by omega)]
  have j20 : upI J 13 20 h v 13 20 h = v := by simp [upI_at]
  have hX : XI z I' P := S.X.of (hI _ _ _ (by omega)) (hI _ _ _ (by omega)) (fun _ => hI _ _ _ (by omega)) (fun _ => hI _ _ _ (by omega)) (fun _ _ _ => rfl) (fun i p q hi hp h => S.X.h9 hi hp h)
  refine S.of (fun k c => k = 3 ∧ (c = 8 ∨ c = 9)) (fun f => f = 20) (fun k j c _ e => hI k j c (by omega)) (fun f c e => hJ f c (Or.inl e)) (fun _ _ => rfl) hX (S.M.up _ (by omega)) (Or.inl ⟨by simp, by rw [upI_at, if_neg (by omega)]⟩) (Or.inl (by simp)) (Or.inl (by simp)) (Or.inl (by simp)) (Or.inl (by simp)) (Or.inr ⟨fun q h1 h2 => ?_, fun q h1 h2 => ?_⟩) (Or.inr fun q hq => ?_) (Or.inl (by simp)) (Or.inl (by simp)) (Or.inl (by simp)) (Or.inl (by simp)) (Or.inl (by simp))
  · rw [hJ 6 q (Or.inl (by decide))]; exact S.A.f.1 q h1 h2
  · rw [hJ 14 q (Or.inl (by decide)), hJ 20 q (Or.inr (by omega))]; exact S.A.f.2 q h1 h2
  · have := S.A.h hq
    unfold HR mm mh at this ⊢
    rw [hI 3 q 0 (by omega), hI 3 q 2 (by omega), hI 3 q 4 (by omega), hI 3 q 5 (by omega), hI 3 q 6 (by omega), hI 3 q 7 (by omega), hJ 14 q (Or.inl (by decide)), hJ 15 q (Or.inl (by decide)), hJ 16 q (Or.inl (by decide)), hJ 17 q (Or.inl (by decide)), hJ 18 q (Or.inl (by decide)), hJ 19 q (Or.inl (by decide))]
    obtain ⟨a0, a1, a2, a4, a5, a6, a7, a8, a9⟩ := this
    refine ⟨a0, a1, a2, a4, a5, a6, a7, ?_, a9⟩
    by_cases e : q = h
    · subst e; rw [j20]; exact ht
    · rw [hI 3 q 8 (by omega), hI 3 q 9 (by omega), hJ 20 q (Or.inr e)]; exact a8
theorem sub_lt4 {f nw : Nat} (hf : f < 2 ^ 30) (hn : nw < 2 ^ 30) : nI f - nI nw < 4 ↔ f < nw + 4 := by
  rw [Int32.lt_iff_toInt_lt, pk_sub_toInt hf hn, show (4 : Int32).toInt = 4 from by decide]
  omega
theorem s_notice (S : Sim z nw I P J) {x y : Int32} : OpR z z nw nw I (cO11 I P x y).1 P P (cK11 I P z.2 x y) (cO11 I P x y).2 (mO11 J z.2 x y) := by
  have e : cK11 I P z.2 x y = mK11 J z.2 x y := by
    unfold cK11 mK11
    rw [inn6]
    by_cases h1 : oM x z.2 = true ∨ inR y 0 5 = false
    · rw [if_pos h1, if_pos h1]
    · rw [if_neg h1, if_neg h1]
      have hx : oM x z.2 = false := by
        cases hc : oM x z.2
        · rfl
        · exact absurd (Or.inl hc) h1
      obtain ⟨i, hi, rfl, hc⟩ := oM_nI hx S.X.2.1
      obtain ⟨-, -, m2, m3, -, -, -⟩ := S.A.m (S.mmM hi)
      obtain ⟨-, -, -, a4, -, -, -, -, -⟩ := S.A.h hi
      rw [hc, S.mxe hi, m2, m3, a4]
      have e2 : ((decide (y = J 13 8 (mm J i)) || decide (y = J 13 9 (mm J i))) = false) ↔ (¬ J 13 8 (mm J i) = y ∧ ¬ J 13 9 (mm J i) = y) := by
        simp only [Bool.or_eq_false_iff, decide_eq_false_iff_not]
        exact and_congr (not_congr eq_comm) (not_congr eq_comm)
      simp only [e2]
  refine OpR.mk S e (fun h => by rw [upI_at, if_neg (by omega)]; exact thv J 0) (fun h => ?_)
  have hg : ∃ i, i < z.2 ∧ x = nI i ∧ x.toNatClampNeg = i ∧ (J 13 8 (mm J i) = y ∨ J 13 9 (mm J i) = y) := by
    unfold mK11 at h
    split at h
    · exact absurd h (by decide)
    · next h1 =>
      have hx : oM x z.2 = false := by
        cases hc : oM x z.2
        · rfl
        · exact absurd (Or.inl hc) h1
      obtain ⟨i, hi, rfl, hc⟩ := oM_nI hx S.X.2.1
      rw [hc] at h
      split at h
      · exact absurd h (by decide)
      · next h2 =>
        refine ⟨i, hi, rfl, hc, ?_⟩
        by_cases q : J 13 8 (mm J i) = y
        · exact Or.inl q
        · by_cases q2 : J 13 9 (mm J i) = y
          · exact Or.inr q2
          · exact absurd ⟨q, q2⟩ h2
  obtain ⟨i, hi, rfl, hc, hy⟩ := hg
  obtain ⟨-, -, m2, m3, -, -, m6⟩ := S.A.m (S.mmM hi)
  obtain ⟨-, -, -, -, -, -, a7, a8, -⟩ := S.A.h hi
  obtain ⟨n1, n2, n3⟩ := S.A.n
  have S2 := S.thr 0
  unfold cO11
  rw [hc, S.mxe hi, a7, n1, n2]
  by_cases h4 : J 13 18 i - nI nw < 4
  · rw [if_pos h4, if_pos h4, if_pos h4]
    exact ⟨rfl, S2.tell hi (fun _ _ _ _ => rfl) a8.or0⟩
  · rw [if_neg h4, if_neg h4, if_neg h4]
    refine ⟨rfl, ?_⟩
    show Sim z nw (tl I (mm J i) i y) P _
    unfold tl tl1
    rw [m2, m3]
    by_cases hf : J 13 8 (mm J i) = y
    · have h2 : ¬ y = J 13 9 (mm J i) := fun q => m6 (hf.trans q)
      rw [if_neg h2, if_pos hf.symm, if_pos hf]
      refine S2.tell hi (fun k j c e => by rw [upI_at, if_neg (by omega)]) ?_
      rw [upI_at, if_pos ⟨rfl, rfl, rfl⟩, upI_at, if_neg (by omega)]
      exact a8.or1
    · have h2 : y = J 13 9 (mm J i) := (hy.resolve_left hf).symm
      rw [if_pos h2, if_neg (fun q => hf q.symm), if_neg hf]
      refine S2.tell hi (fun k j c e => by rw [upI_at, if_neg (by omega)]) ?_
      rw [upI_at, if_neg (by omega), upI_at, if_pos ⟨rfl, rfl, rfl⟩]
      exact a8.or2
end WSim9
