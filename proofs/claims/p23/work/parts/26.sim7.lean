section WSim7
variable {z z' : wZ} {nw nw' : Nat} {I I' : wI} {P P' : wP} {J J' : wI}
theorem SA.of2 (S : SA z nw I P J) (DI : Nat → Nat → Prop) (DJ : Nat → Prop) (hI : ∀ k j c, k < 12 → ¬ DI k c → I' k j c = I k j c) (hJ : ∀ f c, ¬ DJ f → J' 13 f c = J 13 f c) (hP : ∀ k, k ≠ 9 → P' k = P k)
    (n : (¬ DI 0 6 ∧ J' 12 0 1 = J 12 0 1) ∨ SN nw I' J')
    (i : (¬ DI 1 0 ∧ ¬ DI 1 1 ∧ ¬ DJ 2 ∧ ¬ DJ 3) ∨ SI I' J')
    (w : ((∀ c, ¬ DI 5 c) ∧ ¬ DJ 4) ∨ SW I' J')
    (m : (¬ DI 2 0 ∧ ¬ DI 2 1 ∧ ¬ DI 2 2 ∧ ¬ DI 2 3 ∧ ¬ DI 2 4 ∧ ¬ DI 2 5 ∧ ¬ DJ 6 ∧ ¬ DJ 7 ∧ ¬ DJ 8 ∧ ¬ DJ 9 ∧ ¬ DJ 10) ∨ ∀ m, m < z.1 → MR I' J' m)
    (e : (¬ DI 2 7 ∧ ¬ DJ 12) ∨ SE z.1 I' J')
    (f : (¬ DJ 6 ∧ ¬ DJ 14 ∧ ¬ DJ 20) ∨ SF z J')
    (h : (¬ DI 3 0 ∧ ¬ DI 3 2 ∧ ¬ DI 3 4 ∧ ¬ DI 3 5 ∧ ¬ DI 3 6 ∧ ¬ DI 3 7 ∧ ¬ DI 3 8 ∧ ¬ DI 3 9 ∧ ¬ DJ 14 ∧ ¬ DJ 15 ∧ ¬ DJ 16 ∧ ¬ DJ 17 ∧ ¬ DJ 18 ∧ ¬ DJ 19 ∧ ¬ DJ 20) ∨ ∀ h, h < z.2 → HR I' P' J' h)
    (hn : (¬ DJ 14 ∧ ¬ DJ 18 ∧ ¬ DJ 19) ∨ ∀ h, h < z.2 → HN nw J' h)
    (nc : (¬ DJ 7 ∧ ¬ DJ 8 ∧ ¬ DJ 9 ∧ ¬ DJ 14 ∧ ¬ DJ 15 ∧ ¬ DJ 16 ∧ ¬ DJ 17 ∧ ¬ DJ 18 ∧ ¬ DJ 19) ∨ NC z.2 J') : SA z nw I' P' J' := by
  refine ⟨?_, ?_, ?_, ?_, ?_, ?_, ?_, ?_, ?_⟩
  · rcases n with ⟨a, a2⟩ | n
    · have := S.n; exact ⟨(hI 0 0 6 (by decide) a).trans this.1, a2.trans this.2.1, this.2.2⟩
    · exact n
  · rcases i with ⟨a, a2, a3, a4⟩ | i
    · intro q hq; rw [hI 1 q 0 (by decide) a, hI 1 q 1 (by decide) a2, hJ 2 q a3, hJ 3 q a4]; exact S.i q hq
    · exact i
  · rcases w with ⟨a, a2⟩ | w
    · intro q hq; rw [hI 5 0 q (by decide) (a q), hJ 4 q a2]; exact S.w q hq
    · exact w
  · rcases m with ⟨a0, a1, a2, a3, a4, a5, b6, b7, b8, b9, b10⟩ | m
    · intro q hq; unfold MR; rw [hI 2 q 0 (by decide) a0, hI 2 q 1 (by decide) a1, hI 2 q 2 (by decide) a2, hI 2 q 3 (by decide) a3, hI 2 q 4 (by decide) a4, hI 2 q 5 (by decide) a5, hJ 6 q b6, hJ 7 q b7, hJ 8 q b8, hJ 9 q b9, hJ 10 q b10]; exact S.m hq
    · exact m
  · rcases e with ⟨a, a2⟩ | e
    · intro q hq; rw [hI 2 q 7 (by decide) a, hJ 12 q a2]; exact S.e q hq
    · exact e
  · rcases f with ⟨a, a2, a3⟩ | f
    · exact ⟨fun q h1 h2 => by rw [hJ 6 q a]; exact S.f.1 q h1 h2, fun q h1 h2 => by rw [hJ 14 q a2, hJ 20 q a3]; exact S.f.2 q h1 h2⟩
    · exact f
  · rcases h with ⟨a0, a2, a4, a5, a6, a7, a8, a9, b14, b15, b16, b17, b18, b19, b20⟩ | h
    · intro q hq; unfold HR mm mh; rw [hP 3 (by decide), hI 3 q 0 (by decide) a0, hI 3 q 2 (by decide) a2, hI 3 q 4 (by decide) a4, hI 3 q 5 (by decide) a5, hI 3 q 6 (by decide) a6, hI 3 q 7 (by decide) a7, hI 3 q 8 (by decide) a8, hI 3 q 9 (by decide) a9, hJ 14 q b14, hJ 15 q b15, hJ 16 q b16, hJ 17 q b17, hJ 18 q b18, hJ 19 q b19, hJ 20 q b20]; exact S.h hq
    · exact h
  · rcases hn with ⟨a, a2, a3⟩ | hn
    · intro q hq; unfold HN mfr mh; rw [hJ 14 q a, hJ 18 q a2, hJ 19 q a3]; exact S.hn hq
    · exact hn
  · rcases nc with ⟨b7, b8, b9, b14, b15, b16, b17, b18, b19⟩ | nc
    · have h7 := fun c => hJ 7 c b7
      have h8 := fun c => hJ 8 c b8
      have h9 := fun c => hJ 9 c b9
      have h14 := fun c => hJ 14 c b14
      have h15 := fun c => hJ 15 c b15
      have h16 := fun c => hJ 16 c b16
      have h17 := fun c => hJ 17 c b17
      have h18 := fun c => hJ 18 c b18
      have h19 := fun c => hJ 19 c b19
      simpa only [NC, sm2, mm, h7, h8, h9, h14, h15, h16, h17, h18, h19] using S.nc
    · exact nc
/-- a hearing's state, when it is none that is PLANNED any more -/
theorem NC.st {N : Nat} (n : NC N J) {h : Nat} {v : Int32} (hv : ¬ v = 0) : NC N (upI J 13 14 h v) := by
  intro a b ha hb hab p1 p2 ht
  have h14 : ∀ x, upI J 13 14 h v 13 14 x = if x = h then v else J 13 14 x := fun x => by simp [upI_at]
  have hJ : ∀ f x, f ≠ 14 → upI J 13 14 h v 13 f x = J 13 f x := fun f x hf => by rw [upI_at, if_neg (by omega)]
  rw [h14] at p1 p2
  rw [hJ _ _ (by decide), hJ _ _ (by decide), hJ _ _ (by decide), hJ _ _ (by decide)] at ht
  by_cases e1 : a = h
  · rw [if_pos e1] at p1; exact absurd p1 hv
  · by_cases e2 : b = h
    · rw [if_pos e2] at p2; exact absurd p2 hv
    · rw [if_neg e1] at p1
      rw [if_neg e2] at p2
      have := n a b ha hb hab p1 p2 ht
      simpa only [sm2, mm, hJ _ _ (show 16 ≠ 14 by decide), hJ _ _ (show 7 ≠ 14 by decide), hJ _ _ (show 8 ≠ 14 by decide), hJ _ _ (show 9 ≠ 14 by decide), hJ _ _ (show 15 ≠ 14 by decide), hJ _ _ (show 17 ≠ 14 by decide)] using this
theorem HR.st {h h' : Nat} {v : Int32} (r : HR I P J h') : HR (upI I 3 h 4 v) P (upI J 13 14 h v) h' := by
  have h14 : ∀ x, upI J 13 14 h v 13 14 x = if x = h then v else J 13 14 x := fun x => by simp [upI_at]
  have hJ : ∀ f x, f ≠ 14 → upI J 13 14 h v 13 f x = J 13 f x := fun f x hf => by rw [upI_at, if_neg (by omega)]
  have hI : ∀ j c, c ≠ 4 → upI I 3 h 4 v 3 j c = I 3 j c := fun j c hc => by rw [upI_at, if_neg (by omega)]
  have hI4 : ∀ j, upI I 3 h 4 v 3 j 4 = if j = h then v else I 3 j 4 := fun j => by simp [upI_at]
  unfold HR mm mh at *
  rw [h14, hI4, hJ _ _ (by decide), hJ _ _ (by decide), hJ _ _ (by decide), hJ _ _ (by decide), hJ _ _ (by decide), hJ _ _ (by decide), hI _ _ (by decide), hI _ _ (by decide), hI _ _ (by decide), hI _ _ (by decide), hI _ _ (by decide), hI _ _ (by decide), hI _ _ (by decide)]
  obtain ⟨a0, a1, a2, a4, a5, a6, a7, a8, a9⟩ := r
  refine ⟨a0, a1, a2, ?_, a5, a6, a7, a8, a9⟩
  rw [a4]
theorem Sim.hst (S : Sim z nw I P J) {h : Nat} (hh : h < z.2) {v : Int32} (hv : ¬ v = 0) : Sim z nw (upI I 3 h 4 v) P (upI J 13 14 h v) := by
  have h14 : ∀ x, upI J 13 14 h v 13 14 x = if x = h then v else J 13 14 x := fun x => by simp [upI_at]
  have hJ : ∀ f x, f ≠ 14 → upI J 13 14 h v 13 f x = J 13 f x := fun f x hf => by rw [upI_at, if_neg (by omega)]
  refine S.of (fun k c => k = 3 ∧ c = 4) (fun f => f = 14) (fun k j c _ h => by rw [upI_at, if_neg (by omega)]) (fun f c h => hJ f c h) (fun _ _ => rfl) (XI.upI S.X _ (by omega) (by omega) (by omega)) (S.M.up _ (by omega)) (Or.inl ⟨by simp, by rw [upI_at, if_neg (by omega)]⟩) (Or.inl (by simp)) (Or.inl (by simp)) (Or.inl (by simp)) (Or.inl (by simp)) (Or.inr ⟨fun q h1 h2 => ?_, fun q h1 h2 => ?_⟩) (Or.inr fun q hq => (S.A.h hq).st) (Or.inr fun q hq => ?_) (Or.inr (S.A.nc.st hv)) (Or.inl (by simp)) (Or.inl (by simp)) (Or.inl (by simp))
  · rw [hJ _ _ (by decide)]; exact S.A.f.1 q h1 h2
  · rw [h14, if_neg (by omega), hJ _ _ (by decide)]; exact S.A.f.2 q h1 h2
  · intro p
    rw [h14] at p
    by_cases e : q = h
    · rw [if_pos e] at p; exact absurd p hv
    · rw [if_neg e] at p
      have := S.A.hn hq p
      unfold mfr mh at *
      rw [hJ _ _ (by decide), hJ _ _ (by decide)]
      exact this
theorem tbg_eq (S : Sim z nw I P J) {h : Nat} (hh : h < z.2) : tbg I h = (decide (J 13 14 h = 0) && !decide (J 13 18 h ≤ J 12 0 1)) := by
  obtain ⟨-, -, -, a4, -, -, a7, -, -⟩ := S.A.h hh
  unfold tbg
  rw [a4, a7, S.eI]
theorem from_gt (S : Sim z nw I P J) {h : Nat} (hh : h < z.2) : J 13 18 h ≤ J 12 0 1 ↔ mfr J h ≤ nw := by
  obtain ⟨e, h9⟩ := S.M.fr hh
  have := S.A.n.2.2
  rw [e, S.A.n.2.1, nI_leI (by omega) (by omega)]
theorem oM_nI {x : Int32} {M : Nat} (h : oM x M = false) (hM : M ≤ 24) : ∃ i, i < M ∧ x = nI i ∧ x.toNatClampNeg = i := by
  obtain ⟨i, hi, rfl⟩ := oM_of h (by omega : M < 2 ^ 31)
  exact ⟨i, hi, rfl, nI_clamp (by omega)⟩
theorem mLvL_0 {j m : Nat} : ∀ (n k : Nat) (J : wI), mLvL j m n k J 12 0 0 = J 12 0 0
  | 0, _, _ => rfl
  | n + 1, k, J => by
    show mLvL j m n (k + 1) (mLvS j m k J) 12 0 0 = _
    rw [mLvL_0 n (k + 1)]
    unfold mLvS
    split
    · rw [upI_at, if_neg (by omega), upI_at, if_neg (by omega)]
    · rw [upI_at, if_neg (by omega)]
theorem mLv_0 {j : Nat} {J : wI} : mLv j J 12 0 0 = J 12 0 0 := by
  unfold mLv
  split
  · rfl
  · exact mLvL_0 _ _ _
theorem s_drop (S : Sim z nw I P J) {x : Int32} : OpR z z nw nw I (cO10 I P x).1 P (cO10 I P x).2 (cK10 I z.2 x) ((cO10 I P x).1 2 (mx (cO10 I P x).2 x.toNatClampNeg) 6) (mO10 J z.2 x) := by
  have e : cK10 I z.2 x = mK10 J z.2 x := by
    unfold cK10 mK10
    cases hx : oM x z.2
    · obtain ⟨i, hi, rfl, hc⟩ := oM_nI hx S.X.2.1
      rw [hc, tbg_eq S hi]
      simp only [Bool.false_eq_true, if_false, Bool.and_eq_false_iff, decide_eq_false_iff_not, Bool.not_eq_false', decide_eq_true_eq, Int32.not_lt]
    · simp
  have hg : mK10 J z.2 x = 0 → ∃ i, i < z.2 ∧ x = nI i ∧ x.toNatClampNeg = i ∧ J 13 14 i = 0 ∧ nw < mfr J i := fun h => by
    unfold mK10 at h
    split at h
    · exact absurd h (by decide)
    · next h1 =>
      obtain ⟨i, hi, rfl, hc⟩ := oM_nI (by simpa using h1) S.X.2.1
      rw [hc] at h
      split at h
      · exact absurd h (by decide)
      · next h2 =>
        have h3 : J 13 14 i = 0 := Classical.byContradiction fun q => h2 (Or.inl q)
        have h4 : J 12 0 1 < J 13 18 i := Classical.byContradiction fun q => h2 (Or.inr q)
        refine ⟨i, hi, rfl, hc, h3, ?_⟩
        have h5 : ¬ J 13 18 i ≤ J 12 0 1 := Int32.not_le.mpr h4
        rw [from_gt S hi] at h5
        omega
  have key : mK10 J z.2 x = 0 → Sim z nw (cO10 I P x).1 (cO10 I P x).2 (mB10 J x) ∧ ∃ i, i < z.2 ∧ x.toNatClampNeg = i := fun h => by
    obtain ⟨i, hi, rfl, hc, h3, h4⟩ := hg h
    unfold cO10 mB10
    rw [hc]
    exact ⟨(leave_sim (S.thr 0) hi (by unfold mfr at h4 ⊢; rw [th_13]; exact h4)).hst hi (by decide), i, hi, rfl⟩
  refine OpR.mk S e (fun h => ?_) (fun h => ?_)
  · obtain ⟨i, hi, rfl, hc, h3, h4⟩ := hg h
    unfold mB10
    rw [upI_at, if_neg (by omega), mLv_0]
    exact thv J 0
  · obtain ⟨S2, i, hi, hc⟩ := key h
    refine ⟨?_, S2⟩
    rw [hc, S2.mxe hi]
    exact S2.B _ (S2.mmM hi)
end WSim7
