section WSim14
variable {z z' : wZ} {nw nw' : Nat} {I I' : wI} {P P' : wP} {J J' : wI}
theorem cK8_eq (S : Sim z nw I P J) {x r w a y : Int32} : cK8 I P z.1 z.2 x r w a y = mK8 J z.1 z.2 x r w a y := by
  have h24 := S.X.2.1
  have e24 : (inn (I 0 0 5) 24 = false) ↔ z.2 = 24 := by
    rw [S.X.2.2.2.1]
    unfold inn
    have h1 : ¬ nI z.2 < 0 := nI_pos (by omega)
    have h2 : (24 : Int32) ≤ nI z.2 ↔ 24 ≤ z.2 := nI_leI (a := 24) (by decide) (by omega)
    simp only [h1, decide_false, Bool.not_false, Bool.true_and, Bool.not_eq_false', decide_eq_true_eq, h2]
    omega
  unfold cK8 mK8
  rw [inn4, inN_inR]
  by_cases h1 : oM x z.1 = true ∨ inR r 0 3 = false ∨ inR w (-1) 3 = false
  · rw [if_pos h1, if_pos h1]
  · rw [if_neg h1, if_neg h1]
    have hx : oM x z.1 = false := by
      cases hc : oM x z.1
      · rfl
      · exact absurd (Or.inl hc) h1
    have hw : inR w (-1) 3 = true := by
      cases hc : inR w (-1) 3
      · exact absurd (Or.inr (Or.inr hc)) h1
      · rfl
    obtain ⟨i, hi, rfl, hc⟩ := oM_nI hx (by have := S.X.1; omega)
    obtain ⟨n1, n2, n3⟩ := S.A.n
    rw [hc, S.A.st hi, asN_fit S hi hw, cr_eq S hi (hit_none S), n1, n2]
    have e2 : (inR a (nI nw + 1) 999 = false ∨ inR y 1 4 = false) ↔ (a ≤ nI nw ∨ 999 < a ∨ y < 1 ∨ ¬ y ≤ 4) := by
      rw [fr_neg n3, inR_neg, or_assoc, Int32.not_le]
    have e3 : (¬ mRe J z.2 i r w a y (-1) ≤ 0) ↔ ¬ mRe J z.2 i r w a y (-1) = 0 := by rw [mRe_vB, vB_le]
    simp only [e2, e3, e24]
    rfl
theorem mK8_of {M N nw : Nat} {x r w a y : Int32} (h : mK8 J M N x r w a y = 0) (hM : M ≤ 12) (hN : N ≤ 24) (hn : J 12 0 1 = nI nw) (hn2 : nw ≤ 1000) : ∃ i f k, i < M ∧ x = nI i ∧ x.toNatClampNeg = i ∧ a = nI f ∧ nw < f ∧ f ≤ 999 ∧ y = nI k ∧ 0 < k ∧ k ≤ 4 ∧ (w = -1 ∨ ∃ s, s < 4 ∧ w = nI s) ∧ N ≠ 24 ∧ mRe J N i r w a y (-1) = 0 := by
  unfold mK8 at h
  split at h
  · exact absurd h (by decide)
  · next h1 =>
    have hx : oM x M = false := by
      cases hc : oM x M
      · rfl
      · exact absurd (Or.inl hc) h1
    have hw : inR w (-1) 3 = true := by
      cases hc : inR w (-1) 3
      · exact absurd (Or.inr (Or.inr hc)) h1
      · rfl
    obtain ⟨i, hi, rfl, hc⟩ := oM_nI hx (by omega)
    rw [hc] at h
    split at h
    · exact absurd h (by decide)
    · next h2 =>
      have ha : inR a (J 12 0 1 + 1) 999 = true := by
        cases hq : inR a (J 12 0 1 + 1) 999
        · exact absurd (Or.inl hq) h2
        · rfl
      have hy : inR y 1 4 = true := by
        cases hq : inR y 1 4
        · exact absurd (Or.inr hq) h2
        · rfl
      obtain ⟨f, f1, f2, rfl⟩ := inR_fr hn hn2 ha
      obtain ⟨k, k1, k2, rfl⟩ := inR_lo (lo := 1) (hi := 4) (by decide) (by decide) hy
      split at h
      · exact absurd h (by decide)
      · next h3 =>
        have q1 : N ≠ 24 := fun q => h3 (Or.inr (Or.inr (Or.inl q)))
        have q3 : mRe J N i r w (nI f) (nI k) (-1) ≤ 0 := Classical.byContradiction fun q => h3 (Or.inr (Or.inr (Or.inr q)))
        rw [mRe_vB, vB_le] at q3
        rw [← mRe_vB] at q3
        exact ⟨i, f, k, hi, rfl, hc, rfl, f2, f1, rfl, by omega, k2, inR_sp hw, q1, q3⟩
theorem pl_base (S : Sim z nw I P J) {m f k : Nat} {r w : Int32} (hm : m < z.1) (hN : z.2 < 24) (hf : nw < f) (hf9 : f ≤ 999) (hk : 0 < k) (hk4 : k ≤ 4) (hw : w = -1 ∨ ∃ s, s < 4 ∧ w = nI s) (hre : mRe J z.2 m r w (nI f) (nI k) (-1) = 0) : PI (z.1, z.2 + 1) nw (sA (cB8 I z.2 (nI k)) z.2 r w (nI f)) (cP8 P z.2 m) (mBase J z.2 (nI m) r w (nI f) (nI k)) z.2 m 0 := by
  have h12 := S.X.1
  obtain ⟨n1, n2, n3⟩ := S.A.n
  have hXI := (S.X.pl hN hm (y := nI k) rfl hk4).sA (h := z.2) (r := r) (x := w) (f := nI f)
  have hMI := S.M.plan hN hm hk4 hf9 hw (r := r)
  generalize hI' : sA (cB8 I z.2 (nI k)) z.2 r w (nI f) = I' at hXI ⊢
  generalize hJ' : mBase J z.2 (nI m) r w (nI f) (nI k) = J' at hMI ⊢
  generalize hP' : cP8 P z.2 m = P' at hXI ⊢
  have jo : ∀ g x, x ≠ z.2 ∨ (g ≠ 15 ∧ g ≠ 16 ∧ g ≠ 17 ∧ g ≠ 18 ∧ g ≠ 19) → J' 13 g x = J 13 g x := fun g x h => by
    rw [← hJ']; unfold mBase
    rw [upI_at, if_neg (by omega), upI_at, if_neg (by omega), upI_at, if_neg (by omega), upI_at, if_neg (by omega), upI_at, if_neg (by omega), upI_at, if_neg (by omega), th_13]
  have j15 : J' 13 15 z.2 = nI m := by rw [← hJ']; simp [mBase, upI_at]
  have j16 : J' 13 16 z.2 = r := by rw [← hJ']; simp [mBase, upI_at]
  have j17 : J' 13 17 z.2 = w := by rw [← hJ']; simp [mBase, upI_at]
  have j18 : J' 13 18 z.2 = nI f := by rw [← hJ']; simp [mBase, upI_at]
  have j19 : J' 13 19 z.2 = nI k := by rw [← hJ']; simp [mBase, upI_at]
  have jn : J' 12 0 1 = J 12 0 1 := by rw [← hJ']; simp [mBase, upI_at, th]
  have io : ∀ a b c, a ≠ 0 → a ≠ 3 → a ≠ 11 → I' a b c = I a b c := fun a b c h1 h2 h3 => by
    rw [← hI', sA_off (by omega)]; unfold cB8
    rw [upI_at, if_neg (by omega), rowI_off (by omega), rowI_off (by omega)]
  have i3 : ∀ q c, q ≠ z.2 → I' 3 q c = I 3 q c := fun q c h => by
    rw [← hI']; unfold sA cB8
    rw [upI_at, if_neg (by omega), upI_at, if_neg (by omega), upI_at, if_neg (by omega), upI_at, if_neg (by omega), upI_at, if_neg (by omega), upI_at, if_neg (by omega), rowI_off (by omega), rowI_off (by omega)]
  have iN : ∀ c, c < 5 → I' 3 z.2 c = fH (I 0 0 5) (nI k) c := fun c h => by
    rw [← hI', sA_off (by omega)]; unfold cB8
    rw [upI_at, if_neg (by omega), rowI_off (by omega), rowI_at]
  have i5 : I' 3 z.2 5 = r := by rw [← hI']; unfold sA; simp [upI_at]
  have i6 : I' 3 z.2 6 = w := by rw [← hI']; unfold sA; simp [upI_at]
  have i7 : I' 3 z.2 7 = nI f := by rw [← hI']; unfold sA; simp [upI_at]
  have i8 : I' 3 z.2 8 = 0 := by rw [← hI']; unfold sA; simp [upI_at]
  have i9 : I' 3 z.2 9 = 0 := by rw [← hI']; unfold sA; simp [upI_at]
  have i11 : ∀ q c, q ≠ z.2 → I' 11 q c = I 11 q c := fun q c h => by
    rw [← hI', sA_off (by omega)]; unfold cB8
    rw [upI_at, if_neg (by omega), rowI_off (by omega), rowI_off (by omega)]
  have i11N : ∀ c, I' 11 z.2 c = 0 := fun c => by
    rw [← hI', sA_off (by omega)]; unfold cB8
    rw [upI_at, if_neg (by omega), rowI_at]
  have i06 : I' 0 0 6 = I 0 0 6 := by
    rw [← hI', sA_off (by omega)]; unfold cB8
    rw [upI_at, if_neg (by omega), rowI_off (by omega), rowI_off (by omega)]
  have p3 : ∀ q, q ≠ z.2 → P' 3 q = P 3 q := fun q h => by
    rw [← hP']; unfold cP8
    rw [upP_off _ _ (by omega), upP_off _ _ (by omega)]
  have p3N : P' 3 z.2 1 = some m := by rw [← hP']; simp [cP8, upP_at]
  have p9 : P' 9 = P 9 := by
    rw [← hP']; unfold cP8
    rw [upP_kind (by decide), upP_kind (by decide)]
  have hmm : ∀ h, h ≠ z.2 → mm J' h = mm J h := fun h e => by unfold mm; rw [jo 15 h (Or.inl e)]
  have hmmN : mm J' z.2 = m := by unfold mm; rw [j15, nI_clamp (by omega)]
  have hmh : ∀ h, h ≠ z.2 → mh J' h = mh J h := fun h e => by unfold mh; rw [jo 19 h (Or.inl e)]
  have hmhN : mh J' z.2 = k := by unfold mh; rw [j19, nI_clamp (by omega)]
  refine ⟨hXI, hMI, ⟨⟨i06.trans n1, jn.trans n2, n3⟩, fun i hi => ?_, fun q hq => ?_, fun m hm => ?_, fun m hm => ?_, ⟨fun m h1 h2 => ?_, fun h h1 h2 => ?_⟩, fun h hh => ?_, fun h hh p => ?_, ?_⟩, fun h' hh' hne => ?_, fun h' k' h1 h2 h3 => ?_, fun k' hk => absurd hk (Nat.not_lt_zero _), fun k' h1 h2 => ?_, fun m' hm' => ?_, ?_⟩
  · rw [io _ _ _ (by decide) (by decide) (by decide), io _ _ _ (by decide) (by decide) (by decide), jo 2 i (Or.inr (by decide)), jo 3 i (Or.inr (by decide))]; exact S.A.i i hi
  · rw [io _ _ _ (by decide) (by decide) (by decide), jo 4 q (Or.inr (by decide))]; exact S.A.w q hq
  · unfold MR
    rw [io _ _ _ (by decide) (by decide) (by decide), io _ _ _ (by decide) (by decide) (by decide), io _ _ _ (by decide) (by decide) (by decide), io _ _ _ (by decide) (by decide) (by decide), io _ _ _ (by decide) (by decide) (by decide), io _ _ _ (by decide) (by decide) (by decide), jo 6 m (Or.inr (by decide)), jo 7 m (Or.inr (by decide)), jo 8 m (Or.inr (by decide)), jo 9 m (Or.inr (by decide)), jo 10 m (Or.inr (by decide))]
    exact S.A.m hm
  · rw [io _ _ _ (by decide) (by decide) (by decide), jo 12 m (Or.inr (by decide))]; exact S.A.e m hm
  · rw [jo 6 m (Or.inr (by decide))]; exact S.A.f.1 m h1 h2
  · have h1 : z.2 + 1 ≤ h := h1
    rw [jo 14 h (Or.inr (by decide)), jo 20 h (Or.inr (by decide))]; exact S.A.f.2 h (by omega) h2
  · have hh : h < z.2 + 1 := hh
    unfold HR
    by_cases e : h = z.2
    · subst e
      obtain ⟨f1, f2⟩ := S.A.f.2 z.2 (Nat.le_refl _) hN
      rw [iN 0 (by decide), iN 2 (by decide), iN 4 (by decide), i5, i6, i7, i8, i9, p3N, hmmN, hmhN, j16, j17, j18, j19, jo 14 z.2 (Or.inr (by decide)), jo 20 z.2 (Or.inr (by decide)), f1, f2]
      exact ⟨S.X.2.2.2.1, rfl, rfl, rfl, rfl, rfl, rfl, Or.inl ⟨rfl, rfl, rfl⟩, hk⟩
    · have := S.A.h (show h < z.2 by omega)
      unfold HR at this
      rw [i3 h 0 e, i3 h 2 e, i3 h 4 e, i3 h 5 e, i3 h 6 e, i3 h 7 e, i3 h 8 e, i3 h 9 e, p3 h e, hmm h e, hmh h e, jo 14 h (Or.inl e), jo 16 h (Or.inl e), jo 17 h (Or.inl e), jo 18 h (Or.inl e), jo 19 h (Or.inl e), jo 20 h (Or.inl e)]
      exact this
  · have hh : h < z.2 + 1 := hh
    by_cases e : h = z.2
    · subst e
      rw [hmhN]
      unfold mfr
      rw [j18, nI_clamp (by omega)]
      omega
    · rw [jo 14 h (Or.inl e)] at p
      have := S.A.hn (show h < z.2 by omega) p
      unfold mfr at *
      rw [jo 18 h (Or.inl e), hmh h e]
      exact this
  · have key : ∀ a, a < z.2 → J 13 14 a = 0 → mt4 (J 13 18 a) (J 13 19 a) (nI f) (nI k) = true → ¬ sm2 J' a z.2 := fun a ha p ht => by
      have hne : a ≠ z.2 := Nat.ne_of_lt ha
      have := mRe_no hre ha (nI_nm1 (by omega)) p ht
      unfold sm2
      rw [hmm a hne, hmmN, jo 16 a (Or.inl hne), jo 17 a (Or.inl hne), jo 7 _ (Or.inr (by decide)), jo 7 _ (Or.inr (by decide)), jo 8 _ (Or.inr (by decide)), jo 8 _ (Or.inr (by decide)), jo 9 _ (Or.inr (by decide)), jo 9 _ (Or.inr (by decide)), j16, j17]
      exact this
    intro a b ha hb hab p1 p2 ht
    have ha : a < z.2 + 1 := ha
    have hb : b < z.2 + 1 := hb
    rw [jo 14 a (Or.inr (by decide))] at p1
    rw [jo 14 b (Or.inr (by decide))] at p2
    by_cases e1 : a = z.2
    · subst e1
      have e2 : b ≠ z.2 := fun q => hab q.symm
      rw [j18, j19, jo 18 b (Or.inl e2), jo 19 b (Or.inl e2), mt4_symm] at ht
      exact fun q => key b (by omega) p2 ht (sm2_symm q)
    · by_cases e2 : b = z.2
      · subst e2
        rw [j18, j19, jo 18 a (Or.inl e1), jo 19 a (Or.inl e1)] at ht
        exact key a (by omega) p1 ht
      · rw [jo 18 a (Or.inl e1), jo 18 b (Or.inl e2), jo 19 a (Or.inl e1), jo 19 b (Or.inl e2)] at ht
        have := S.A.nc a b (by omega) (by omega) hab p1 p2 ht
        unfold sm2 at this ⊢
        rw [hmm a e1, hmm b e2, jo 16 a (Or.inl e1), jo 16 b (Or.inl e2), jo 17 a (Or.inl e1), jo 17 b (Or.inl e2), jo 7 _ (Or.inr (by decide)), jo 7 _ (Or.inr (by decide)), jo 8 _ (Or.inr (by decide)), jo 8 _ (Or.inr (by decide)), jo 9 _ (Or.inr (by decide)), jo 9 _ (Or.inr (by decide))]
        exact this
  · have hh' : h' < z.2 + 1 := hh'
    obtain ⟨e1, e2⟩ := S.C.1 h' (show h' < z.2 by omega)
    refine ⟨fun k hk => ?_, fun k hk ho => ?_⟩
    · rw [i11 _ _ hne, jo 21 _ (Or.inr (by decide))]; exact e1 k hk
    · rw [hmh h' hne, jo 17 _ (Or.inl hne)] at ho
      rw [jo 21 _ (Or.inr (by decide))]; exact e2 k hk ho
  · have h1 : z.2 + 1 ≤ h' := h1
    rw [jo 21 _ (Or.inr (by decide))]; exact S.C.2 h' k' (by omega) h2 h3
  · rw [i11N, jo 21 _ (Or.inr (by decide)), S.C.2 z.2 k' (Nat.le_refl _) hN h2]
    exact ⟨rfl, rfl⟩
  · rw [io _ _ _ (by decide) (by decide) (by decide), jo 11 m' (Or.inr (by decide)), S.B m' hm']
    split
    · exact (Int32.add_zero _).symm
    · rfl
  · exact S.D.of (funext fun j => funext fun c => io _ _ _ (by decide) (by decide) (by decide)) (funext fun j => funext fun c => io _ _ _ (by decide) (by decide) (by decide)) p9 (fun c => jo 22 c (Or.inr (by decide))) (fun c => jo 23 c (Or.inr (by decide)))
theorem s_plan (S : Sim z nw I P J) {x r w a y : Int32} : OpR z (z.1, z.2 + 1) nw nw I (cO8 I P z.2 x r w a y).1 P (cO8 I P z.2 x r w a y).2 (cK8 I P z.1 z.2 x r w a y) (nI z.2) (mO8 J z.1 z.2 x r w a y) := by
  obtain ⟨n1, n2, n3⟩ := S.A.n
  refine OpR.mk S (cK8_eq S) (fun h => ?_) (fun h => ⟨rfl, ?_⟩)
  · unfold mBase
    rw [mCm_0, upI_at, if_neg (by omega), upI_at, if_neg (by omega), upI_at, if_neg (by omega), upI_at, if_neg (by omega), upI_at, if_neg (by omega), upI_at, if_neg (by omega)]
    exact thv J 0
  · obtain ⟨i, f, k, hi, rfl, hc, rfl, f1, f2, rfl, k1, k2, hw, q1, q2⟩ := mK8_of h S.X.1 S.X.2.1 n2 n3
    have h12 := S.X.1
    have h24 := S.X.2.1
    have hN : z.2 < 24 := by omega
    have p := pl_base S hi hN f1 f2 k1 k2 hw q2
    unfold cO8
    rw [hc]
    refine put_sim p (Nat.lt_succ_self _) ?_ ?_ ?_ ?_ ?_ ?_ rfl f1 f2 hw
    · unfold mm mBase; simp [upI_at]; exact nI_clamp (by omega)
    · unfold mx cP8; simp [upP_at]
    · unfold hrN mh cB8 mBase
      rw [upI_at, if_neg (by omega), rowI_off (by omega), rowI_at]
      simp [upI_at, fH]
    · unfold cB8
      rw [upI_at, if_neg (by omega), rowI_off (by omega), rowI_off (by omega)]
      exact n1
    · unfold mBase; simp [upI_at]
    · unfold mBase; simp [upI_at]
end WSim14
