section WSim8
variable {z z' : wZ} {nw nw' : Nat} {I I' : wI} {P P' : wP} {J J' : wI}
theorem mLv_le {h : Nat} (hl : J 13 18 h ≤ J 12 0 1) : mLv h J = J := by unfold mLv; rw [if_pos (Or.inr hl)]
theorem dec_step {s : wI × wP × Int32} {J : wI × Int32} (S : Sim z nw s.1 s.2.1 J.1) (hc : s.2.2 = J.2) {h m : Nat} (hh : h < z.2) : Sim z nw (daS m h s).1 (daS m h s).2.1 (mdS m h J).1 ∧ (daS m h s).2.2 = (mdS m h J).2 := by
  obtain ⟨-, -, -, a4, -, -, a7, -, -⟩ := S.A.h hh
  have hn := S.eI
  unfold daS mdS
  rw [S.mxe hh, a4, a7, hn]
  by_cases hp : mm J.1 h = m ∧ J.1 13 14 h = 0
  · rw [if_pos hp, if_pos hp]
    by_cases hf : J.1 13 18 h ≤ J.1 12 0 1
    · rw [if_neg (fun q => q hf), mLv_le hf]
      exact ⟨S.hst hh (by decide), by rw [hc]⟩
    · rw [if_pos hf]
      have hf2 := hf
      rw [from_gt S hh] at hf2
      exact ⟨(leave_sim S hh (by omega)).hst hh (by decide), by rw [hc]⟩
  · rw [if_neg hp, if_neg hp]
    exact ⟨S, hc⟩
theorem dec_loop {m : Nat} : ∀ (n h : Nat) (s : wI × wP × Int32) (J : wI × Int32), Sim z nw s.1 s.2.1 J.1 → s.2.2 = J.2 → h + n = z.2 → Sim z nw (daL m n h s).1 (daL m n h s).2.1 (mdL m n h J).1 ∧ (daL m n h s).2.2 = (mdL m n h J).2
  | 0, _, _, _, S, hc, _ => ⟨S, hc⟩
  | n + 1, h, s, J, S, hc, e => by
    obtain ⟨S2, h2⟩ := dec_step (m := m) S hc (show h < z.2 by omega)
    exact dec_loop n (h + 1) _ _ S2 h2 (by omega)
theorem mdL_0 {m : Nat} : ∀ (n h : Nat) (J : wI × Int32), (mdL m n h J).1 12 0 0 = J.1 12 0 0
  | 0, _, _ => rfl
  | n + 1, h, J => by
    show (mdL m n (h + 1) (mdS m h J)).1 12 0 0 = _
    rw [mdL_0 n (h + 1)]
    unfold mdS
    split
    · show upI (mLv h J.1) 13 14 h 3 12 0 0 = _
      rw [upI_at, if_neg (by omega), mLv_0]
    · rfl
theorem s_decide (S : Sim z nw I P J) {x : Int32} : OpR z z nw nw I (cO4 I P z x).1 P (cO4 I P z x).2.1 (cKs I z.1 x 1) (cO4 I P z x).2.2 (mO4 J z.1 z.2 x) := by
  have hm : mO4 J z.1 z.2 x = if mKs J z.1 x 1 = 0 then ((mdL x.toNatClampNeg z.2 0 (upI (th J 0) 13 6 x.toNatClampNeg 2, 0)).1, (mdL x.toNatClampNeg z.2 0 (upI (th J 0) 13 6 x.toNatClampNeg 2, 0)).2) else (th J (mKs J z.1 x 1), 0) := rfl
  rw [hm]
  refine OpR.mk S (cKs_eq S) (fun _ => ?_) (fun h => ?_)
  · rw [mdL_0]
    show upI (th J 0) 13 6 x.toNatClampNeg 2 12 0 0 = 0
    rw [upI_at, if_neg (by omega)]
    exact thv J 0
  · obtain ⟨i, hi, rfl, hc, h2⟩ := mKs_of h S.X.1
    unfold cO4
    rw [hc]
    obtain ⟨a, b⟩ := dec_loop (m := i) z.2 0 (upI I 2 i 5 2, P, 0) (upI (th J 0) 13 6 i 2, 0) ((S.thr 0).stt hi 2) rfl (by omega)
    exact ⟨b, a⟩
/-- the hearing at its new place, before its hours are charged -/
theorem mv_base (S : Sim z nw I P J) {h f : Nat} {r w : Int32} (hh : h < z.2) (hp : J 13 14 h = 0) (hf : nw < f) (hf9 : f ≤ 999) (hw : w = -1 ∨ ∃ s, s < 4 ∧ w = nI s) (hre : mRe J z.2 (mm J h) r w (nI f) (J 13 19 h) (nI h) = 0) : PI z nw (sA I h r w (nI f)) P (mMv J h r w (nI f)) h (mm J h) 0 := by
  have h24 := S.X.2.1
  have hI : ∀ k j c, (k ≠ 3 ∨ c < 5) → sA I h r w (nI f) k j c = I k j c := fun k j c e => sA_off e
  have hIh : ∀ j c, j ≠ h → sA I h r w (nI f) 3 j c = I 3 j c := fun j c e => by unfold sA; simp [upI_at, e]
  have i5 : sA I h r w (nI f) 3 h 5 = r := by unfold sA; simp [upI_at]
  have i6 : sA I h r w (nI f) 3 h 6 = w := by unfold sA; simp [upI_at]
  have i7 : sA I h r w (nI f) 3 h 7 = nI f := by unfold sA; simp [upI_at]
  have i8 : sA I h r w (nI f) 3 h 8 = 0 := by unfold sA; simp [upI_at]
  have i9 : sA I h r w (nI f) 3 h 9 = 0 := by unfold sA; simp [upI_at]
  have hJ : ∀ g x, (g ≠ 16 ∧ g ≠ 17 ∧ g ≠ 18 ∧ g ≠ 20) ∨ x ≠ h → mMv J h r w (nI f) 13 g x = J 13 g x := fun g x e => by
    unfold mMv
    rw [upI_at, if_neg (by omega), upI_at, if_neg (by omega), upI_at, if_neg (by omega), upI_at, if_neg (by omega)]
  have j16 : mMv J h r w (nI f) 13 16 h = r := by unfold mMv; simp [upI_at]
  have j17 : mMv J h r w (nI f) 13 17 h = w := by unfold mMv; simp [upI_at]
  have j18 : mMv J h r w (nI f) 13 18 h = nI f := by unfold mMv; simp [upI_at]
  have j20 : mMv J h r w (nI f) 13 20 h = 0 := by unfold mMv; simp [upI_at]
  have hmm : ∀ x, mm (mMv J h r w (nI f)) x = mm J x := fun x => by unfold mm; rw [hJ _ _ (Or.inl (by decide))]
  have hmh : ∀ x, mh (mMv J h r w (nI f)) x = mh J x := fun x => by unfold mh; rw [hJ _ _ (Or.inl (by decide))]
  refine ⟨S.X.sA, S.M.mv hf9 hw, S.A.of2 (fun k c => k = 3 ∧ 5 ≤ c) (fun g => g = 16 ∨ g = 17 ∨ g = 18 ∨ g = 20) (fun k j c _ e => hI k j c (by omega)) (fun g c e => hJ g c (Or.inl (by omega))) (fun _ _ => rfl) (Or.inl ⟨by simp, by unfold mMv; simp [upI_at]⟩) (Or.inl (by simp)) (Or.inl (by simp)) (Or.inl (by simp)) (Or.inl (by simp)) (Or.inr ⟨fun q h1 h2 => ?_, fun q h1 h2 => ?_⟩) (Or.inr fun q hq => ?_) (Or.inr fun q hq => ?_) (Or.inr ?_), ?_, ?_, ?_, ?_, ?_, ?_⟩
  · rw [hJ _ _ (Or.inl (by decide))]; exact S.A.f.1 q h1 h2
  · rw [hJ _ _ (Or.inl (by decide)), hJ _ _ (Or.inr (by omega))]; exact S.A.f.2 q h1 h2
  · have := S.A.h hq
    unfold HR at this ⊢
    rw [hmm, hmh, hI 3 q 0 (by omega), hI 3 q 2 (by omega), hI 3 q 4 (by omega), hJ 19 q (Or.inl (by decide)), hJ 14 q (Or.inl (by decide))]
    by_cases e : q = h
    · subst e
      rw [i5, i6, i7, i8, i9, j16, j17, j18, j20]
      obtain ⟨a0, a1, a2, a4, a5, a6, a7, a8, a9⟩ := this
      exact ⟨a0, a1, a2, a4, rfl, rfl, rfl, Or.inl ⟨rfl, rfl, rfl⟩, a9⟩
    · rw [hIh q 5 e, hIh q 6 e, hIh q 7 e, hIh q 8 e, hIh q 9 e, hJ 16 q (Or.inr e), hJ 17 q (Or.inr e), hJ 18 q (Or.inr e), hJ 20 q (Or.inr e)]
      exact this
  · intro p
    rw [hJ 14 q (Or.inl (by decide))] at p
    rw [hmh]
    by_cases e : q = h
    · subst e
      unfold mfr
      rw [j18, nI_clamp (by omega)]
      omega
    · have := S.A.hn hq p
      unfold mfr at this ⊢
      rw [hJ 18 q (Or.inr e)]
      exact this
  · have key : ∀ a, a < z.2 → a ≠ h → J 13 14 a = 0 → mt4 (J 13 18 a) (J 13 19 a) (nI f) (J 13 19 h) = true → ¬ sm2 (mMv J h r w (nI f)) a h := fun a ha hne p ht => by
      have := mRe_no hre ha (fun q => hne ((nI_eq (by omega) (by omega)).mp q)) p ht
      unfold sm2
      rw [hmm, hmm, hJ 16 a (Or.inr hne), hJ 17 a (Or.inr hne), hJ 7 _ (Or.inl (by decide)), hJ 7 _ (Or.inl (by decide)), hJ 8 _ (Or.inl (by decide)), hJ 8 _ (Or.inl (by decide)), hJ 9 _ (Or.inl (by decide)), hJ 9 _ (Or.inl (by decide)), j16, j17]
      exact this
    intro a b ha hb hab p1 p2 ht
    rw [hJ 14 a (Or.inl (by decide))] at p1
    rw [hJ 14 b (Or.inl (by decide))] at p2
    rw [hJ 19 a (Or.inl (by decide)), hJ 19 b (Or.inl (by decide))] at ht
    by_cases e1 : a = h
    · subst e1
      rw [j18, hJ 18 b (Or.inr (fun q => hab q.symm)), mt4_symm] at ht
      exact fun q => key b hb (fun q => hab q.symm) p2 ht (sm2_symm q)
    · by_cases e2 : b = h
      · subst e2
        rw [j18, hJ 18 a (Or.inr e1)] at ht
        exact key a ha e1 p1 ht
      · rw [hJ 18 a (Or.inr e1), hJ 18 b (Or.inr e2)] at ht
        have := S.A.nc a b ha hb hab p1 p2 ht
        unfold sm2 at this ⊢
        rw [hmm, hmm, hJ 16 a (Or.inr e1), hJ 16 b (Or.inr e2), hJ 17 a (Or.inr e1), hJ 17 b (Or.inr e2), hJ 7 _ (Or.inl (by decide)), hJ 7 _ (Or.inl (by decide)), hJ 8 _ (Or.inl (by decide)), hJ 8 _ (Or.inl (by decide)), hJ 9 _ (Or.inl (by decide)), hJ 9 _ (Or.inl (by decide))]
        exact this
  · intro h' hh' hne
    obtain ⟨e1, e2⟩ := S.C.1 h' hh'
    refine ⟨fun k hk => ?_, fun k hk ho => ?_⟩
    · rw [hI 11 _ _ (by omega), hJ 21 _ (Or.inl (by decide))]; exact e1 k hk
    · rw [hmh, hJ 17 _ (Or.inr hne)] at ho
      rw [hJ 21 _ (Or.inl (by decide))]; exact e2 k hk ho
  · intro h' k' h1 h2 h3
    rw [hJ 21 _ (Or.inl (by decide))]; exact S.C.2 h' k' h1 h2 h3
  · intro k' hk; omega
  · intro k' h1 h2
    rw [hmh] at h1
    obtain ⟨e1, e2⟩ := S.C.1 h hh
    rw [hI 11 _ _ (by omega), hJ 21 _ (Or.inl (by decide)), e1 k' h2, e2 k' h2 (Or.inl h1)]
    exact ⟨rfl, rfl⟩
  · intro m' hm'
    rw [hI 2 _ _ (by omega), hJ 11 _ (Or.inl (by decide)), S.B m' hm']
    split
    · exact (Int32.add_zero _).symm
    · rfl
  · exact S.D.of (funext fun j => funext fun c => hI 8 j c (by omega)) (funext fun j => funext fun c => hI 10 j c (by omega)) rfl (fun c => hJ 22 c (Or.inl (by decide))) (fun c => hJ 23 c (Or.inl (by decide)))
end WSim8
