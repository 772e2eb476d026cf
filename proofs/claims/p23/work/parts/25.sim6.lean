section WSim6
variable {z z' : wZ} {nw nw' : Nat} {I I' : wI} {P P' : wP} {J J' : wI}
def vB (b1 b2 b3 b4 : Bool) : Int32 := if b1 = true then 1 else if b2 = true then 2 else if b3 = true then 3 else if b4 = true then 4 else 0
theorem vB_step : ∀ E s1 s2 s3 s4 b1 b2 b3 b4 : Bool, (if ¬ E = true then vB b1 b2 b3 b4 else if ¬ vB s1 s2 s3 s4 = 0 ∧ (vB b1 b2 b3 b4 = 0 ∨ ¬ vB b1 b2 b3 b4 ≤ vB s1 s2 s3 s4) then vB s1 s2 s3 s4 else vB b1 b2 b3 b4) = vB (b1 || (E && s1)) (b2 || (E && s2)) (b3 || (E && s3)) (b4 || (E && s4)) := by decide +kernel
theorem vB_le : ∀ b1 b2 b3 b4 : Bool, vB b1 b2 b3 b4 ≤ 0 ↔ vB b1 b2 b3 b4 = 0 := by decide +kernel
theorem vB_0 : ∀ b1 b2 b3 b4 : Bool, vB b1 b2 b3 b4 = 0 → b1 = false ∧ b2 = false ∧ b3 = false ∧ b4 = false := by decide +kernel
theorem mRe_vB {N m : Nat} {wh who at1 many but : Int32} : mRe J N m wh who at1 many but = vB (mClL J 1 m wh who at1 many but N 0 false) (mClL J 2 m wh who at1 many but N 0 false) (mClL J 3 m wh who at1 many but N 0 false) (mClL J 4 m wh who at1 many but N 0 false) := rfl
theorem ra_vB (S : Sim z nw I P J) {h m : Nat} (hh : h < z.2) (hm : m < z.1) {r w : Int32} : ra I (mx P h) h m r w = vB (mSame J 1 m r w h) (mSame J 2 m r w h) (mSame J 3 m r w h) (mSame J 4 m r w h) := by
  obtain ⟨-, -, -, -, a5, a6, -, -, -⟩ := S.A.h hh
  obtain ⟨-, m1, m2, m3, -, -, -⟩ := S.A.m (S.mmM hh)
  obtain ⟨-, k1, k2, k3, -, -, -⟩ := S.A.m hm
  unfold ra
  rw [S.mxe hh]
  have e1 : nd I (mm J h) h 0 r = mSame J 1 m r w h := by unfold nd mSame; rw [a5]; rfl
  have e2 : nd I (mm J h) h 1 (I 2 m 1) = mSame J 2 m r w h := by unfold nd mSame; rw [m1, k1]; rfl
  have e3 : (nd I (mm J h) h 2 (I 2 m 2) = true ∨ nd I (mm J h) h 2 (I 2 m 3) = true) ↔ mSame J 3 m r w h = true := by
    unfold nd mSame
    rw [m2, m3, k2, k3]
    simp only [show ¬ (2 : Int32) = 0 by decide, show ¬ (2 : Int32) = 1 by decide, show ¬ (3 : Int32) = 1 by decide, show ¬ (3 : Int32) = 2 by decide, if_false, if_true, Bool.or_eq_true, decide_eq_true_eq]
    grind
  have e4 : (¬ w = -1 ∧ nd I (mm J h) h 3 w = true) ↔ mSame J 4 m r w h = true := by
    unfold nd mSame
    rw [a6]
    simp only [show ¬ (3 : Int32) = 0 by decide, show ¬ (3 : Int32) = 1 by decide, show ¬ (3 : Int32) = 2 by decide, show ¬ (4 : Int32) = 1 by decide, show ¬ (4 : Int32) = 2 by decide, show ¬ (4 : Int32) = 3 by decide, if_false, decide_eq_true_eq]
  rw [e1, e2]
  simp only [e3, e4]
  rfl
theorem tp_mt (S : Sim z nw I P J) {h : Nat} (hh : h < z.2) {fr oh : Int32} : tp I h fr oh = (decide (J 13 14 h = 0) && mt4 (J 13 18 h) (J 13 19 h) fr oh) := by
  obtain ⟨-, -, a2, a4, -, -, a7, -, -⟩ := S.A.h hh
  unfold tp mt4
  rw [a2, a4, a7]
theorem cr_step (S : Sim z nw I P J) {h m : Nat} (hh : h < z.2) (hm : m < z.1) {r w fr oh but : Int32} {it : Option Nat} (hit : it = some h ↔ nI h = but) {b1 b2 b3 b4 : Bool} : crS I P it m r w fr oh h (vB b1 b2 b3 b4) = vB (mClS J 1 m r w fr oh but h b1) (mClS J 2 m r w fr oh but h b2) (mClS J 3 m r w fr oh but h b3) (mClS J 4 m r w fr oh but h b4) := by
  have hs : ∀ (v : Int32) (b : Bool), mClS J v m r w fr oh but h b = (b || ((!decide (nI h = but) && tp I h fr oh) && mSame J v m r w h)) := fun v b => by
    unfold mClS
    rw [tp_mt S hh]
    cases decide (nI h = but) <;> cases decide (J 13 14 h = 0) <;> cases mSame J v m r w h <;> cases mt4 (J 13 18 h) (J 13 19 h) fr oh <;> cases b <;> rfl
  rw [hs, hs, hs, hs, ← vB_step, ← ra_vB S hh hm]
  unfold crS
  have hc : (it = some h ∨ ¬ tp I h fr oh = true) ↔ ¬ (!decide (nI h = but) && tp I h fr oh) = true := by
    rw [hit]
    by_cases e : nI h = but <;> cases tp I h fr oh <;> simp [e]
  simp only [hc]
theorem cr_loop (S : Sim z nw I P J) {m : Nat} (hm : m < z.1) {r w fr oh but : Int32} {it : Option Nat} (hit : ∀ h, h < z.2 → (it = some h ↔ nI h = but)) : ∀ (n h : Nat) (b1 b2 b3 b4 : Bool), h + n = z.2 → crL I P it m r w fr oh n h (vB b1 b2 b3 b4) = vB (mClL J 1 m r w fr oh but n h b1) (mClL J 2 m r w fr oh but n h b2) (mClL J 3 m r w fr oh but n h b3) (mClL J 4 m r w fr oh but n h b4)
  | 0, _, _, _, _, _, _ => rfl
  | n + 1, h, b1, b2, b3, b4, e => by
    show crL I P it m r w fr oh n (h + 1) (crS I P it m r w fr oh h (vB b1 b2 b3 b4)) = _
    rw [cr_step S (show h < z.2 by omega) hm (hit h (by omega)), cr_loop S hm hit n (h + 1) _ _ _ _ (by omega)]
    rfl
theorem cr_eq (S : Sim z nw I P J) {m : Nat} (hm : m < z.1) {r w fr oh but : Int32} {it : Option Nat} (hit : ∀ h, h < z.2 → (it = some h ↔ nI h = but)) : crL I P it m r w fr oh z.2 0 0 = mRe J z.2 m r w fr oh but := by
  rw [mRe_vB]
  exact cr_loop S hm hit z.2 0 false false false false (by omega)
theorem hit_none (S : Sim z nw I P J) : ∀ h, h < z.2 → ((none : Option Nat) = some h ↔ nI h = -1) := fun h hh => by
  have h24 := S.X.2.1
  have h1 : ¬ nI h = -1 := nI_nm1 (by omega)
  simp [h1]
theorem hit_some (S : Sim z nw I P J) {j : Nat} (hj : j < z.2) : ∀ h, h < z.2 → (some j = some h ↔ nI h = nI j) := fun h hh => by
  have := S.X.2.1
  rw [nI_eq (by omega) (by omega)]
  exact ⟨fun q => (Option.some.inj q).symm, fun q => by rw [q]⟩
theorem asN_fit (S : Sim z nw I P J) {m : Nat} (hm : m < z.1) {w : Int32} (hw : inR w (-1) 3 = true) : asN I m w = mFit J m w := by
  have e4 := (S.A.m hm).2.2.2.2.1
  unfold asN mFit kn
  rw [e4]
  rcases inR_sp hw with rfl | ⟨s, hs, rfl⟩
  · have h1 : ((-1 : Int32) < 0 ∨ (4 : Int32) ≤ -1) := by decide
    simp only [h1, decide_true, Bool.not_true, Bool.false_and]
  · have h1 : ¬ (nI s < 0 ∨ 4 ≤ nI s) := fun q => q.elim (nI_pos (by omega)) (nI_ge (b := 4) hs (by decide))
    have h2 : ¬ nI s = -1 := nI_nm1 (by omega)
    have hc : (nI s).toNatClampNeg = s := nI_clamp (by omega)
    have hi := (S.A.i s hs).1
    simp only [h1, h2, decide_false, hc, hi]
theorem lt_1 {a : Int32} {nw : Nat} (hn : nw ≤ 1000) : (a < nI nw + 1) ↔ a ≤ nI nw := by
  rw [nI_1, Int32.lt_iff_toInt_lt, Int32.le_iff_toInt_le, nI_toInt (by omega), nI_toInt (by omega)]
  omega
theorem fr_neg {a : Int32} {nw : Nat} (hn : nw ≤ 1000) : inR a (nI nw + 1) 999 = false ↔ (a ≤ nI nw ∨ 999 < a) := by
  rw [inR_neg, lt_1 hn]
theorem mt4_symm {a b c d : Int32} : mt4 a b c d = mt4 c d a b := by unfold mt4; exact Bool.and_comm _ _
theorem sm2_symm {h h' : Nat} (s : sm2 J h h') : sm2 J h' h := by
  unfold sm2 at *
  grind
theorem mClL_mono {v wh who at1 many but : Int32} {m : Nat} : ∀ (n h : Nat), mClL J v m wh who at1 many but n h true = true
  | 0, _ => rfl
  | n + 1, h => by
    show mClL J v m wh who at1 many but n (h + 1) (mClS J v m wh who at1 many but h true) = true
    rw [show mClS J v m wh who at1 many but h true = true from rfl]
    exact mClL_mono n (h + 1)
theorem mClL_no {v wh who at1 many but : Int32} {m : Nat} : ∀ (n h : Nat) (b : Bool), mClL J v m wh who at1 many but n h b = false → ∀ h', h ≤ h' → h' < h + n → ¬ nI h' = but → J 13 14 h' = 0 → mt4 (J 13 18 h') (J 13 19 h') at1 many = true → mSame J v m wh who h' = false
  | 0, h, b, _, h', h1, h2, _, _, _ => absurd h2 (by omega)
  | n + 1, h, b, hf, h', h1, h2, hne, hp, ht => by
    have hf : mClL J v m wh who at1 many but n (h + 1) (mClS J v m wh who at1 many but h b) = false := hf
    by_cases e : h' = h
    · subst e
      cases hc : mSame J v m wh who h'
      · rfl
      · exfalso
        have : mClS J v m wh who at1 many but h' b = true := by unfold mClS; rw [hc, hp, ht]; simp [hne]
        rw [this, mClL_mono] at hf
        cases hf
    · exact mClL_no n (h + 1) _ hf h' (by omega) (by omega) hne hp ht
/-- what 'no reason' says of every other hearing -/
theorem mRe_no {N m : Nat} {wh who at1 many but : Int32} (h0 : mRe J N m wh who at1 many but = 0) {h : Nat} (hh : h < N) (hne : ¬ nI h = but) (hp : J 13 14 h = 0) (ht : mt4 (J 13 18 h) (J 13 19 h) at1 many = true) : ¬ (J 13 16 h = wh ∨ J 13 7 (mm J h) = J 13 7 m ∨ (J 13 8 (mm J h) = J 13 8 m ∨ J 13 8 (mm J h) = J 13 9 m ∨ J 13 9 (mm J h) = J 13 8 m ∨ J 13 9 (mm J h) = J 13 9 m) ∨ (¬ who = -1 ∧ J 13 17 h = who)) := by
  rw [mRe_vB] at h0
  obtain ⟨a, b, c, d⟩ := vB_0 _ _ _ _ h0
  have a := mClL_no _ _ _ a h (by omega) (by omega) hne hp ht
  have b := mClL_no _ _ _ b h (by omega) (by omega) hne hp ht
  have c := mClL_no _ _ _ c h (by omega) (by omega) hne hp ht
  have d := mClL_no _ _ _ d h (by omega) (by omega) hne hp ht
  unfold mSame at a b c d
  simp only [show ¬ (2 : Int32) = 1 by decide, show ¬ (3 : Int32) = 1 by decide, show ¬ (3 : Int32) = 2 by decide, show ¬ (4 : Int32) = 1 by decide, show ¬ (4 : Int32) = 2 by decide, show ¬ (4 : Int32) = 3 by decide, if_false, if_true, decide_eq_false_iff_not] at a b c d
  rintro (q | q | q | q)
  · exact a q
  · exact b q
  · exact c q
  · exact d q
theorem s_clash (S : Sim z nw I P J) {x r w a y : Int32} : OpR z z nw nw I I P P (cK13 z.1 x r w a y) (crL I P none x.toNatClampNeg r w a y z.2 0 0) (mO13 J z.1 z.2 x r w a y) := by
  have e : cK13 z.1 x r w a y = mK13 z.1 x r w a y := by
    unfold cK13 mK13
    rw [inn4, inN_inR]
    have h1 : (inR a 0 999 = false ∨ inR y 1 4 = false) ↔ (a < 0 ∨ 999 < a ∨ y < 1 ∨ 4 < y) := by
      rw [inR_neg, inR_neg, or_assoc]
    simp only [h1]
  refine OpR.mk S e (fun _ => by simp [upI_at, th]) (fun h => ?_)
  have hx : oM x z.1 = false := by
    unfold mK13 at h
    split at h
    · exact absurd h (by decide)
    · next h1 =>
      cases hc : oM x z.1
      · rfl
      · exact absurd (Or.inl hc) h1
  obtain ⟨i, hi, rfl⟩ := oM_of hx (by have := S.X.1; omega)
  have hc : (nI i).toNatClampNeg = i := nI_clamp (by have := S.X.1; omega)
  rw [hc]
  exact ⟨cr_eq (S.thr 0) hi (hit_none S), S.thr 0⟩
end WSim6
