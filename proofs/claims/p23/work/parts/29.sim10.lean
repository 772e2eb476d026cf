section WSim10
variable {z z' : wZ} {nw nw' : Nat} {I I' : wI} {P P' : wP} {J J' : wI}
def atF (J : wI) (x y w : Int32) (h : Nat) : Prop := mIts J x y h = true ∧ J 13 14 h = 0 ∧ mt4 (J 13 18 h) (J 13 19 h) w 1 = true
theorem at_iff (S : Sim z nw I P J) {h : Nat} (hh : h < z.2) {x y w : Int32} : (tp I h w 1 = true ∧ nd I (mx P h) h x y = true) ↔ atF J x y w h := by
  obtain ⟨-, -, -, -, a5, a6, -, -, -⟩ := S.A.h hh
  obtain ⟨-, m1, m2, m3, -, -, -⟩ := S.A.m (S.mmM hh)
  rw [tp_mt S hh, S.mxe hh]
  have e : nd I (mm J h) h x y = true ↔ mIts J x y h = true := by
    unfold nd mIts
    rw [a5, a6, m1, m2, m3]
    by_cases h0 : x = 0
    · simp [h0]
    · by_cases h1 : x = 1
      · simp [h1]
      · by_cases h2 : x = 2
        · subst h2
          simp only [show ¬ (2 : Int32) = 0 by decide, show ¬ (2 : Int32) = 1 by decide, if_false, if_true, Bool.or_eq_true, decide_eq_true_eq]
          exact or_congr eq_comm eq_comm
        · simp [h0, h1, h2]
  unfold atF
  rw [e, Bool.and_eq_true, decide_eq_true_eq]
  constructor
  · rintro ⟨⟨a, b⟩, c⟩; exact ⟨c, a, b⟩
  · rintro ⟨c, a, b⟩; exact ⟨⟨a, b⟩, c⟩
theorem mt4_1 {f d t : Nat} (hf : f < 2 ^ 29) (hd : d < 2 ^ 29) (ht : t < 2 ^ 29) (h : mt4 (nI f) (nI d) (nI t) 1 = true) : f ≤ t ∧ t < f + d := by
  unfold mt4 at h
  rw [Bool.and_eq_true, Bool.not_eq_true', Bool.not_eq_true', decide_eq_false_iff_not, decide_eq_false_iff_not, nI_1, nI_add, nI_leI (by omega) (by omega), nI_leI (by omega) (by omega)] at h
  omega
theorem mt4_2 {f d f2 d2 : Nat} (hf : f < 2 ^ 29) (hd : d < 2 ^ 29) (hf2 : f2 < 2 ^ 29) (hd2 : d2 < 2 ^ 29) (h : f < f2 + d2 ∧ f2 < f + d) : mt4 (nI f) (nI d) (nI f2) (nI d2) = true := by
  unfold mt4
  rw [Bool.and_eq_true, Bool.not_eq_true', Bool.not_eq_true', decide_eq_false_iff_not, decide_eq_false_iff_not, nI_add, nI_add, nI_leI (by omega) (by omega), nI_leI (by omega) (by omega)]
  omega
theorem at_one (S : Sim z nw I P J) {x y w : Int32} {t : Nat} (hw : w = nI t) (ht : t ≤ 1003) (hy : ¬ y = -1) {a b : Nat} (ha : a < z.2) (hb : b < z.2) (fa : atF J x y w a) (fb : atF J x y w b) : a = b := by
  refine Classical.byContradiction fun hab => ?_
  subst hw
  obtain ⟨a1, a2, a3⟩ := fa
  obtain ⟨b1, b2, b3⟩ := fb
  obtain ⟨ea, fa9⟩ := S.M.fr ha
  obtain ⟨eb, fb9⟩ := S.M.fr hb
  have ha4 := S.M.hr4 ha
  have hb4 := S.M.hr4 hb
  have da := S.M.hr ha
  have db := S.M.hr hb
  have hm : mt4 (J 13 18 a) (J 13 19 a) (J 13 18 b) (J 13 19 b) = true := by
    rw [ea, da] at a3
    rw [eb, db] at b3
    rw [ea, da, eb, db]
    have q1 := mt4_1 (by omega) (by omega) (by omega) a3
    have q2 := mt4_1 (by omega) (by omega) (by omega) b3
    exact mt4_2 (by omega) (by omega) (by omega) (by omega) (by omega)
  refine S.A.nc a b ha hb hab a2 b2 hm ?_
  unfold mIts at a1 b1
  unfold sm2
  by_cases h0 : x = 0
  · simp only [h0, if_true, decide_eq_true_eq] at a1 b1
    exact Or.inl (a1.trans b1.symm)
  · by_cases h1 : x = 1
    · subst h1
      simp only [show ¬ (1 : Int32) = 0 by decide, if_false, if_true, decide_eq_true_eq] at a1 b1
      exact Or.inr (Or.inl (a1.trans b1.symm))
    · by_cases h2 : x = 2
      · subst h2
        simp only [show ¬ (2 : Int32) = 0 by decide, show ¬ (2 : Int32) = 1 by decide, if_false, if_true, decide_eq_true_eq] at a1 b1
        refine Or.inr (Or.inr (Or.inl ?_))
        grind
      · simp only [h0, h1, h2, if_false, decide_eq_true_eq] at a1 b1
        exact Or.inr (Or.inr (Or.inr ⟨by rw [b1]; exact hy, a1.trans b1.symm⟩))
theorem mAL_none {x y w : Int32} : ∀ (n h : Nat) (v : Int32), (∀ h', h ≤ h' → h' < h + n → ¬ atF J x y w h') → mAL J x y w n h v = v
  | 0, _, _, _ => rfl
  | n + 1, h, v, hn => by
    show mAL J x y w n (h + 1) (mAS J x y w h v) = v
    rw [show mAS J x y w h v = v from if_neg (hn h (by omega) (by omega))]
    exact mAL_none n (h + 1) v (fun h' h1 h2 => hn h' (by omega) (by omega))
theorem at_loop (S : Sim z nw I P J) {x y w : Int32} {t : Nat} (hw : w = nI t) (ht : t ≤ 1003) (hy : ¬ y = -1) : ∀ (n h : Nat), h + n = z.2 → caL I P x y w n h = mAL J x y w n h (-1)
  | 0, _, _ => rfl
  | n + 1, h, e => by
    have hh : h < z.2 := by omega
    show (if tp I h w 1 = true ∧ nd I (mx P h) h x y = true then I 3 h 0 else caL I P x y w n (h + 1)) = mAL J x y w n (h + 1) (mAS J x y w h (-1))
    by_cases c : atF J x y w h
    · rw [if_pos ((at_iff S hh).mpr c), show mAS J x y w h (-1) = nI h from if_pos c, mAL_none n (h + 1) (nI h) (fun h' h1 h2 q => by
        have := at_one S hw ht hy hh (show h' < z.2 by omega) c q
        omega)]
      exact (S.A.h hh).1
    · rw [if_neg (fun q => c ((at_iff S hh).mp q)), show mAS J x y w h (-1) = -1 from if_neg c]
      exact at_loop S hw ht hy n (h + 1) (by omega)
theorem s_at (S : Sim z nw I P J) {x y w : Int32} : OpR z z nw nw I I P P (cK14 x y w) (caL I P x y w z.2 0) (mO14 J z.2 x y w) := by
  have e : cK14 x y w = mK14 x y w := by
    unfold cK14 mK14
    rw [inn4, ich_inR]
    have h2 : inn y (hmN x) = inR y 0 (if x = 2 then 5 else 3) := by
      unfold hmN
      by_cases h2 : x = 2
      · subst h2; rw [if_neg (by decide), if_neg (by decide), if_pos rfl, if_pos rfl]; exact inn6 y
      · rw [if_neg h2, if_neg h2]
        have : (if x = 0 then (4 : Int32) else if x = 1 then 4 else 4) = 4 := by split; rfl; split <;> rfl
        rw [this]; exact inn4 y
    rw [h2]
    cases inR x 0 3 <;> cases inR y 0 (if x = 2 then 5 else 3) <;> cases inR w 0 1003 <;> simp
  refine OpR.mk S e (fun _ => by simp [upI_at, th]) (fun h => ⟨?_, S.thr 0⟩)
  have h2 : inR y 0 (if x = 2 then 5 else 3) = true ∧ inR w 0 1003 = true := by
    unfold mK14 at h
    cases h1 : inR x 0 3
    · rw [h1, if_neg (by decide)] at h; exact absurd h (by decide)
    · rw [h1, if_pos rfl] at h
      refine Classical.byContradiction fun q => ?_
      rw [if_neg q] at h
      exact absurd h (by decide)
  obtain ⟨t, ht, rfl⟩ := inR_of (n := 1003) (by decide) h2.2
  refine at_loop (S.thr 0) rfl ht ?_ z.2 0 (by omega)
  intro q
  have h3 := h2.1
  rw [q] at h3
  by_cases h0 : x = 2
  · rw [if_pos h0] at h3; exact absurd h3 (by decide)
  · rw [if_neg h0] at h3; exact absurd h3 (by decide)
end WSim10
