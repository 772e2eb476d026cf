section WSim13
variable {z z' : wZ} {nw nw' : Nat} {I I' : wI} {P P' : wP} {J J' : wI}
theorem cK2_eq (S : Sim z nw I P J) {x y w v : Int32} : cK2 I x y w v = mK2 z.1 x y w v := by
  have h12 := S.X.1
  have e : (inn (I 0 0 4) 12 = false) ↔ z.1 = 12 := by
    rw [S.X.2.2.1]
    unfold inn
    have h1 : ¬ nI z.1 < 0 := nI_pos (by omega)
    have h2 : (12 : Int32) ≤ nI z.1 ↔ 12 ≤ z.1 := nI_leI (a := 12) (by decide) (by omega)
    simp only [h1, decide_false, Bool.not_false, Bool.true_and, Bool.not_eq_false', decide_eq_true_eq, h2]
    omega
  unfold cK2 mK2
  rw [inn4, inn6, inn6, inN_inR]
  simp only [e]
  cases inR x 0 3 <;> cases inR y 0 5 <;> cases inR w 0 5 <;> cases inR v (-1) 3 <;> simp
theorem mK2_of {M : Nat} {x y w v : Int32} (h : mK2 M x y w v = 0) : (∃ j, j < 6 ∧ y = nI j ∧ y.toNatClampNeg = j) ∧ ¬ y = w ∧ M ≠ 12 := by
  unfold mK2 at h
  split at h
  · next h1 =>
    split at h
    · exact absurd h (by decide)
    · next h2 =>
      split at h
      · exact absurd h (by decide)
      · next h3 =>
        obtain ⟨j, hj, rfl⟩ := inR_of (n := 5) (by decide) h1.2.1
        exact ⟨⟨j, by omega, rfl, nI_clamp (by omega)⟩, h2, h3⟩
  · exact absurd h (by decide)
theorem s_file (S : Sim z nw I P J) {x y w v : Int32} : OpR z (z.1 + 1, z.2) nw nw I (cO2 I z.1 x y w v) P (upP P 6 0 z.1 (some z.1)) (cK2 I x y w v) (nI z.1) (mO2 J z.1 x y w v) := by
  refine OpR.mk S (cK2_eq S) (fun _ => by simp [upI_at, th]) (fun h => ⟨rfl, ?_⟩)
  obtain ⟨⟨j, hj, rfl, hcj⟩, hyw, hM12⟩ := mK2_of h
  have h12 := S.X.1
  have hM : z.1 < 12 := by omega
  obtain ⟨xa, xb, xc, xd, xe, xf, xg, xh, xi, xj, xk⟩ := S.X
  obtain ⟨ma, mb, mc, md, me, mf', mg, mh', mi, mj⟩ := S.M
  obtain ⟨n1, n2, n3⟩ := S.A.n
  have hsw := (S.A.w j hj).1
  generalize hI' : cO2 I z.1 x (nI j) w v = I'
  generalize hJ' : upI (upI (upI (upI (upI (upI (upI (th J 0) 13 7 z.1 x) 13 8 z.1 (nI j)) 13 9 z.1 w) 13 10 z.1 v) 13 11 z.1 (if J 13 4 (nI j).toNatClampNeg = 0 then -50 else 0)) 13 12 z.1 (J 12 0 1 + 100)) 12 0 5 (nI (z.1 + 1)) = J'
  have i2 : ∀ m c, m ≠ z.1 → I' 2 m c = I 2 m c := fun m c h => by
    rw [← hI']; unfold cO2
    rw [upI_at, if_neg (by omega), upI_at, if_neg (by omega), rowI_off (by omega)]
  have iM : ∀ c, I' 2 z.1 c = if c = 6 then 0 - (if I 5 0 j = 0 then 50 else 0) else fM (I 0 0 4) x (nI j) w v (I 0 0 6 + 100) c := fun c => by
    rw [← hI']; unfold cO2
    rw [upI_at, if_neg (by omega), upI_at, rowI_at, hcj]
    simp
  have io : ∀ k m c, k ≠ 0 → k ≠ 2 → I' k m c = I k m c := fun k m c h1 h2 => by
    rw [← hI']; unfold cO2
    rw [upI_at, if_neg (by omega), upI_at, if_neg (by omega), rowI_off (by omega)]
  have i0 : ∀ c, c ≠ 4 → I' 0 0 c = I 0 0 c := fun c h => by
    rw [← hI']; unfold cO2
    rw [upI_at, if_neg (by omega), upI_at, if_neg (by omega), rowI_off (by omega)]
  have i04 : I' 0 0 4 = nI (z.1 + 1) := by
    rw [← hI']; unfold cO2
    rw [upI_at, if_pos ⟨rfl, rfl, rfl⟩, xc, nI_1]
  have jo : ∀ f m, m ≠ z.1 ∨ (f ≠ 7 ∧ f ≠ 8 ∧ f ≠ 9 ∧ f ≠ 10 ∧ f ≠ 11 ∧ f ≠ 12) → J' 13 f m = J 13 f m := fun f m h => by
    rw [← hJ', upI_at, if_neg (by omega), upI_at, if_neg (by omega), upI_at, if_neg (by omega), upI_at, if_neg (by omega), upI_at, if_neg (by omega), upI_at, if_neg (by omega), upI_at, if_neg (by omega), th_13]
  have j7 : J' 13 7 z.1 = x := by rw [← hJ']; simp [upI_at]
  have j8 : J' 13 8 z.1 = nI j := by rw [← hJ']; simp [upI_at]
  have j9 : J' 13 9 z.1 = w := by rw [← hJ']; simp [upI_at]
  have j10 : J' 13 10 z.1 = v := by rw [← hJ']; simp [upI_at]
  have j11 : J' 13 11 z.1 = if J 13 4 j = 0 then -50 else 0 := by rw [← hJ']; simp [upI_at, hcj]
  have j12 : J' 13 12 z.1 = J 12 0 1 + 100 := by rw [← hJ']; simp [upI_at]
  have jn : J' 12 0 1 = J 12 0 1 := by rw [← hJ']; simp [upI_at, th]
  have j5 : J' 12 0 5 = nI (z.1 + 1) := by rw [← hJ']; simp [upI_at]
  have j13 : J' 12 0 13 = J 12 0 13 := by rw [← hJ']; simp [upI_at, th]
  have hmm : ∀ h, mm J' h = mm J h := fun h => by unfold mm; rw [jo 15 h (Or.inr (by decide))]
  have hmh : ∀ h, mh J' h = mh J h := fun h => by unfold mh; rw [jo 19 h (Or.inr (by decide))]
  have hmr : ∀ h, mfr J' h = mfr J h := fun h => by unfold mfr; rw [jo 18 h (Or.inr (by decide))]
  have hP : ∀ k i c, k ≠ 6 → upP P 6 0 z.1 (some z.1) k i c = P k i c := fun k i c h => by rw [upP_at, if_neg (by omega)]
  have hX : XI (z.1 + 1, z.2) I' (upP P 6 0 z.1 (some z.1)) := by
    refine ⟨(show z.1 + 1 ≤ 12 by omega), xb, i04, by rw [i0 5 (by decide)]; exact xd, fun q hq => ?_, fun q hq => by rw [hP _ _ _ (by decide)]; exact xf q hq, fun q hq => by rw [hP _ _ _ (by decide)]; exact xg q hq, fun q hq => ?_, fun i p q hi hp hq => ?_, fun q hq => ?_, fun q hq => ?_⟩
    · have hq : q < z.1 + 1 := hq
      rw [upP_at]
      by_cases e : q = z.1
      · rw [if_pos ⟨rfl, rfl, e⟩, e]
      · rw [if_neg (fun h => e h.2.2)]; exact xe q (by omega)
    · have := xh q hq
      unfold mx at *
      rw [hP _ _ _ (by decide)]
      exact ⟨this.1, Nat.lt_succ_of_lt this.2⟩
    · rw [hP _ _ _ (by decide)] at hq; exact Nat.lt_succ_of_lt (xi i p q hi hp hq)
    · unfold hrN; rw [io _ _ _ (by decide) (by decide)]; exact xj q hq
    · have hq : q < z.1 + 1 := hq
      unfold fsN
      by_cases e : q = z.1
      · subst e
        rw [iM, if_neg (by decide)]
        show nI j = nI (nI j).toNatClampNeg ∧ (nI j).toNatClampNeg < 6
        rw [hcj]
        exact ⟨rfl, hj⟩
      · rw [i2 q 2 e]; exact xk q (by omega)
  have hMI : MI (z.1 + 1) z.2 J' := by
    refine ⟨by omega, mb, j5, j13.trans md, fun h hh => ?_, fun h hh => ?_, fun h hh => ?_, fun h hh => ?_, fun m hm => ?_, fun q hq => ?_⟩
    · have := me h hh
      rw [jo 15 h (Or.inr (by decide)), hmm]; exact ⟨this.1, Nat.lt_succ_of_lt this.2⟩
    · rw [jo 19 h (Or.inr (by decide)), hmh]; exact mf' h hh
    · unfold msp; rw [jo 17 h (Or.inr (by decide))]; exact mg h hh
    · rw [jo 18 h (Or.inr (by decide)), hmr]; exact mh' h hh
    · unfold mf
      by_cases e : m = z.1
      · subst e
        rw [j8, hcj]
        exact ⟨rfl, hj⟩
      · rw [jo 8 m (Or.inl e)]; exact mi m (by omega)
    · have := mj q hq
      unfold mpy at *
      rw [jo 22 q (Or.inr (by decide))]; exact ⟨this.1, Nat.le_succ_of_le this.2⟩
  refine ⟨hX, hMI, ⟨⟨by rw [i0 6 (by decide)]; exact n1, jn.trans n2, n3⟩, fun i hi => ?_, fun q hq => ?_, fun m hm => ?_, fun m hm => ?_, ⟨fun m h1 h2 => ?_, fun h h1 h2 => ?_⟩, fun h hh => ?_, fun h hh p => ?_, ?_⟩, ?_, fun m hm => ?_, ?_⟩
  · rw [io _ _ _ (by decide) (by decide), io _ _ _ (by decide) (by decide), jo 2 i (Or.inr (by decide)), jo 3 i (Or.inr (by decide))]; exact S.A.i i hi
  · rw [io _ _ _ (by decide) (by decide), jo 4 q (Or.inr (by decide))]; exact S.A.w q hq
  · have hm : m < z.1 + 1 := hm
    unfold MR
    by_cases e : m = z.1
    · subst e
      rw [iM, iM, iM, iM, iM, iM, j7, j8, j9, j10, jo 6 z.1 (Or.inr (by decide)), S.A.f.1 z.1 (Nat.le_refl _) hM]
      simp only [if_neg (show ¬ (0 = 6) by decide), if_neg (show ¬ (1 = 6) by decide), if_neg (show ¬ (2 = 6) by decide), if_neg (show ¬ (3 = 6) by decide), if_neg (show ¬ (4 = 6) by decide), if_neg (show ¬ (5 = 6) by decide)]
      exact ⟨xc, rfl, rfl, rfl, rfl, rfl, hyw⟩
    · rw [i2 m 0 e, i2 m 1 e, i2 m 2 e, i2 m 3 e, i2 m 4 e, i2 m 5 e, jo 6 m (Or.inl e), jo 7 m (Or.inl e), jo 8 m (Or.inl e), jo 9 m (Or.inl e), jo 10 m (Or.inl e)]
      exact S.A.m (by omega)
  · have hm : m < z.1 + 1 := hm
    by_cases e : m = z.1
    · subst e
      rw [iM, if_neg (by decide), j12]
      show I 0 0 6 + 100 = J 12 0 1 + 100
      rw [S.eI]
    · rw [i2 m 7 e, jo 12 m (Or.inl e)]; exact S.A.e m (by omega)
  · have h1 : z.1 + 1 ≤ m := h1
    rw [jo 6 m (Or.inr (by decide))]; exact S.A.f.1 m (by omega) h2
  · rw [jo 14 h (Or.inr (by decide)), jo 20 h (Or.inr (by decide))]; exact S.A.f.2 h h1 h2
  · have := S.A.h hh
    unfold HR at *
    rw [hmm, hmh, hP _ _ _ (by decide), io _ _ _ (by decide) (by decide), io _ _ _ (by decide) (by decide), io _ _ _ (by decide) (by decide), io _ _ _ (by decide) (by decide), io _ _ _ (by decide) (by decide), io _ _ _ (by decide) (by decide), io _ _ _ (by decide) (by decide), io _ _ _ (by decide) (by decide), jo 14 h (Or.inr (by decide)), jo 16 h (Or.inr (by decide)), jo 17 h (Or.inr (by decide)), jo 18 h (Or.inr (by decide)), jo 19 h (Or.inr (by decide)), jo 20 h (Or.inr (by decide))]
    exact this
  · rw [jo 14 h (Or.inr (by decide))] at p
    rw [hmr, hmh]; exact S.A.hn hh p
  · intro a b ha hb hab p1 p2 ht
    rw [jo 14 a (Or.inr (by decide))] at p1
    rw [jo 14 b (Or.inr (by decide))] at p2
    rw [jo 18 a (Or.inr (by decide)), jo 18 b (Or.inr (by decide)), jo 19 a (Or.inr (by decide)), jo 19 b (Or.inr (by decide))] at ht
    have := S.A.nc a b ha hb hab p1 p2 ht
    have na : mm J a ≠ z.1 := Nat.ne_of_lt (S.mmM ha)
    have nb : mm J b ≠ z.1 := Nat.ne_of_lt (S.mmM hb)
    unfold sm2 at *
    rw [hmm, hmm, jo 16 a (Or.inr (by decide)), jo 16 b (Or.inr (by decide)), jo 17 a (Or.inr (by decide)), jo 17 b (Or.inr (by decide)), jo 7 _ (Or.inl na), jo 7 _ (Or.inl nb), jo 8 _ (Or.inl na), jo 8 _ (Or.inl nb), jo 9 _ (Or.inl na), jo 9 _ (Or.inl nb)]
    exact this
  · exact S.C.of (fun j c => io _ _ _ (by decide) (by decide)) (fun c => jo 19 c (Or.inr (by decide))) (fun c => jo 17 c (Or.inr (by decide))) (fun c => jo 21 c (Or.inr (by decide)))
  · have hm : m < z.1 + 1 := hm
    by_cases e : m = z.1
    · subst e
      rw [iM, if_pos rfl, j11, hsw]
      split <;> decide
    · rw [i2 m 6 e, jo 11 m (Or.inl e)]; exact S.B m (by omega)
  · exact S.D.of (funext fun j => funext fun c => io _ _ _ (by decide) (by decide)) (funext fun j => funext fun c => io _ _ _ (by decide) (by decide)) (funext fun i => funext fun c => hP _ _ _ (by decide)) (fun c => jo 22 c (Or.inr (by decide))) (fun c => jo 23 c (Or.inr (by decide)))
end WSim13
