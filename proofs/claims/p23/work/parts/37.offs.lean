section WOffs
variable {z z' : wZ} {nw nw' : Nat} {I I' I'' : wI} {P P' : wP} {J J' : wI}
/-- the class's calls leave the reference's things -/
def Og (I I' : wI) : Prop := ∀ k, 12 ≤ k → I' k = I k
/-- the reference's calls leave the class's things -/
def Om (I I' : wI) : Prop := ∀ k, k < 12 → I' k = I k
theorem Og.rf : Og I I := fun _ _ => rfl
theorem Om.rf : Om I I := fun _ _ => rfl
theorem Og.tr (a : Og I I') (b : Og I' I'') : Og I I'' := fun k h => (b k h).trans (a k h)
theorem Om.tr (a : Om I I') (b : Om I' I'') : Om I I'' := fun k h => (b k h).trans (a k h)
theorem Og.up (a : Og I I') {k i c : Nat} {v : Int32} (h : k < 12) : Og I (upI I' k i c v) := fun q hq => (upI_kind (by omega)).trans (a q hq)
theorem Om.up (a : Om I I') {k i c : Nat} {v : Int32} (h : 12 ≤ k) : Om I (upI I' k i c v) := fun q hq => (upI_kind (by omega)).trans (a q hq)
theorem Om.th {v : Int32} : Om I (th I v) := Om.rf.up (by decide)
theorem og_tk {i m : Nat} {x y : Int32} : Og I (tkI I P i m x y) := fun k h => funext fun j => funext fun c => tkI_off (by omega)
theorem og_ptL {i m h : Nat} {fr now : Int32} : ∀ (n k : Nat) (s : wI × wP), Og s.1 (ptL i m h fr now n k s).1
  | 0, _, _ => Og.rf
  | n + 1, k, s => Og.tr (show Og s.1 (ptS i m h fr now k s).1 from (og_tk (P := s.2)).up (by decide)) (og_ptL n (k + 1) _)
theorem og_p0L {h : Nat} : ∀ (n k : Nat) (I : wI), Og I (p0L h n k I)
  | 0, _, _ => Og.rf
  | n + 1, k, I => Og.tr (Og.rf.up (by decide)) (og_p0L n (k + 1) _)
theorem og_sA {h : Nat} {r x f : Int32} : Og I (sA I h r x f) := ((((Og.rf.up (by decide)).up (by decide)).up (by decide)).up (by decide)).up (by decide)
theorem og_putC {h : Nat} {r w a : Int32} : Og I (putC I P h r w a).1 := by
  unfold putC
  split
  · exact (Og.tr og_sA (og_p0L _ _ _)).up (by decide)
  · exact (Og.tr (og_sA (h := h) (r := r) (x := w) (f := a)) (og_ptL _ _ (sA I h r w a, P))).up (by decide)
theorem og_lvL {i m h : Nat} : ∀ (n k : Nat) (s : wI × wP), Og s.1 (lvL i m h n k s).1
  | 0, _, _ => Og.rf
  | n + 1, k, s => Og.tr (show Og s.1 (lvS i m h k s).1 from (Og.rf.up (by decide)).up (by decide)) (og_lvL n (k + 1) _)
theorem og_lvR {h : Nat} : Og I (lvR I P h).1 := by
  unfold lvR
  split
  · split
    · exact Og.rf
    · exact og_lvL _ _ (I, P)
  · exact Og.rf.up (by decide)
theorem og_daL {m : Nat} : ∀ (n h : Nat) (s : wI × wP × Int32), Og s.1 (daL m n h s).1
  | 0, _, _ => Og.rf
  | n + 1, h, s => by
    refine Og.tr (I' := (daS m h s).1) ?_ (og_daL n (h + 1) _)
    unfold daS
    split
    · split
      · exact (og_lvR (P := s.2.1)).up (by decide)
      · exact Og.rf.up (by decide)
    · exact Og.rf
theorem og_hE {m h : Nat} : Og I (hE I m h) := by
  unfold hE
  split
  · exact (Og.rf.up (by decide)).up (by decide)
  · exact Og.rf.up (by decide)
theorem og_ehL : ∀ (n h : Nat) (s : wI × Int32), Og s.1 (ehL P n h s).1
  | 0, _, _ => Og.rf
  | n + 1, h, s => by
    refine Og.tr (I' := (ehS P h s).1) ?_ (og_ehL n (h + 1) _)
    unfold ehS
    split
    · exact og_hE
    · exact Og.rf
theorem og_rtL {now : Int32} : ∀ (n m : Nat) (I : wI), Og I (rtL now n m I)
  | 0, _, _ => Og.rf
  | n + 1, m, I => by
    refine Og.tr (I' := rT I m now) ?_ (og_rtL n (m + 1) _)
    unfold rT
    split
    · exact Og.rf.up (by decide)
    · split
      · exact Og.rf.up (by decide)
      · exact Og.rf
theorem og_cPL : ∀ (n : Nat) (s : wI × Int32), Og s.1 (cPL P z n s).1
  | 0, _ => Og.rf
  | n + 1, s => Og.tr (Og.tr (Og.tr (Og.rf.up (by decide)) (og_ehL _ _ (upI s.1 0 0 6 (s.1 0 0 6 + 1), 0))) (og_rtL _ _ _)) (og_cPL n (cPS P z s))
theorem og_O0 {x y w : Int32} : Og I (cO0 I x y w) := (Og.rf.up (by decide)).up (by decide)
theorem og_O2 {M : Nat} {x y w v : Int32} : Og I (cO2 I M x y w v) := ((show Og I (rowI I 2 M _) from fun k h => funext fun i => rowI_off (by omega)).up (by decide)).up (by decide)
theorem og_O4 {x : Int32} : Og I (cO4 I P z x).1 := Og.tr (Og.rf.up (by decide)) (og_daL _ _ (upI I 2 x.toNatClampNeg 5 2, P, 0))
theorem og_O5 {x : Int32} : Og I (cO5 I x) := (Og.rf.up (by decide)).up (by decide)
theorem og_O8 {N : Nat} {x r w a y : Int32} : Og I (cO8 I P N x r w a y).1 := Og.tr (show Og I (cB8 I N y) from (show Og I (rowI (rowI I 3 N _) 11 N _) from fun k h => funext fun i => by rw [rowI_off (by omega), rowI_off (by omega)]).up (by decide)) og_putC
theorem og_O9 {x r w a : Int32} : Og I (cO9 I P x r w a).1 := Og.tr og_lvR og_putC
theorem og_O10 {x : Int32} : Og I (cO10 I P x).1 := (og_lvR (P := P)).up (by decide)
theorem og_O11 {x y : Int32} : Og I (cO11 I P x y).1 := by
  unfold cO11
  split
  · exact Og.rf
  · show Og I (tl I _ _ y)
    unfold tl tl1
    split <;> split <;> first | exact Og.rf | exact Og.rf.up (by decide) | exact (Og.rf.up (by decide)).up (by decide)
theorem om_mLvL {j m : Nat} : ∀ (n k : Nat) (J : wI), Om J (mLvL j m n k J)
  | 0, _, _ => Om.rf
  | n + 1, k, J => by
    refine Om.tr (I' := mLvS j m k J) ?_ (om_mLvL n (k + 1) _)
    unfold mLvS
    split
    · exact (Om.rf.up (by decide)).up (by decide)
    · exact Om.rf.up (by decide)
theorem om_mLv {j : Nat} : Om J (mLv j J) := by
  unfold mLv
  split
  · exact Om.rf
  · exact om_mLvL _ _ _
theorem om_mCmL {j m : Nat} : ∀ (n k : Nat) (J : wI), Om J (mCmL j m n k J)
  | 0, _, _ => Om.rf
  | n + 1, k, J => by
    refine Om.tr (I' := mCmS j m k J) ?_ (om_mCmL n (k + 1) _)
    rw [mCmS_eq rfl rfl rfl rfl]
    refine (((Om.up (k := 13) (h := by decide) ?_).up (by decide)).up (by decide)).up (by decide)
    split
    · exact Om.rf
    · exact Om.rf.up (by decide)
theorem om_mC0L {j m : Nat} : ∀ (n k : Nat) (J : wI), Om J (mC0L j m n k J)
  | 0, _, _ => Om.rf
  | n + 1, k, J => Om.tr (show Om J (mC0S j m k J) from (Om.rf.up (by decide)).up (by decide)) (om_mC0L n (k + 1) _)
theorem om_mCm {j : Nat} : Om J (mCm j J) := by
  unfold mCm
  split
  · exact om_mC0L _ _ _
  · exact om_mCmL _ _ _
theorem om_mdL {m : Nat} : ∀ (n h : Nat) (s : wI × Int32), Om s.1 (mdL m n h s).1
  | 0, _, _ => Om.rf
  | n + 1, h, s => by
    refine Om.tr (I' := (mdS m h s).1) ?_ (om_mdL n (h + 1) _)
    unfold mdS
    split
    · exact om_mLv.up (by decide)
    · exact Om.rf
theorem om_eAL : ∀ (n m : Nat) (J : wI), Om J (eAL n m J)
  | 0, _, _ => Om.rf
  | n + 1, m, J => Om.tr (show Om J (eAS m J) from Om.rf.up (by decide)) (om_eAL n (m + 1) _)
theorem om_eBL : ∀ (n h : Nat) (s : wI × Int32), Om s.1 (eBL n h s).1
  | 0, _, _ => Om.rf
  | n + 1, h, s => by
    refine Om.tr (I' := (eBS h s).1) ?_ (om_eBL n (h + 1) _)
    unfold eBS
    split
    · split
      · exact (Om.rf.up (by decide)).up (by decide)
      · exact (Om.rf.up (by decide)).up (by decide)
    · exact Om.rf
theorem om_eCL : ∀ (n m : Nat) (J : wI), Om J (eCL n m J)
  | 0, _, _ => Om.rf
  | n + 1, m, J => Om.tr (show Om J (eCS m J) from Om.rf.up (by decide)) (om_eCL n (m + 1) _)
theorem om_mEn {M N : Nat} : Om J (mEn M N J).1 := Om.tr (Om.tr (show Om J (eN (eAL M 0 J)) from (om_eAL _ _ _).up (by decide)) (om_eBL _ _ (eN (eAL M 0 J), 0))) (om_eCL _ _ _)
theorem om_mPL {M N : Nat} : ∀ (n : Nat) (s : wI × Int32), Om s.1 (mPL M N n s).1
  | 0, _ => Om.rf
  | n + 1, s => Om.tr om_mEn (om_mPL n ((mEn M N s.1).1, s.2 + (mEn M N s.1).2))
theorem om_if {mk : Int32} {A : wI} {r : Int32} (h : Om J A) : Om J (if mk = 0 then (A, r) else (th J mk, 0)).1 := by
  split
  · exact h
  · exact Om.th
theorem om_O0 {x y w : Int32} : Om J (mO0 J x y w).1 := om_if ((Om.th.up (by decide)).up (by decide))
theorem om_O1 {x y : Int32} : Om J (mO1 J x y).1 := om_if (Om.th.up (by decide))
theorem om_O2 {M : Nat} {x y w v : Int32} : Om J (mO2 J M x y w v).1 := om_if (((((((Om.th.up (by decide)).up (by decide)).up (by decide)).up (by decide)).up (by decide)).up (by decide)).up (by decide))
theorem om_O3 {M : Nat} {x y : Int32} : Om J (mO3 J M x y).1 := om_if (Om.th.up (by decide))
theorem om_O4 {M N : Nat} {x : Int32} : Om J (mO4 J M N x).1 := by
  unfold mO4
  split
  · exact Om.tr (Om.th.up (by decide)) (om_mdL _ _ (upI (th J 0) 13 6 x.toNatClampNeg 2, 0))
  · exact Om.th
theorem om_O5 {M : Nat} {x : Int32} : Om J (mO5 J M x).1 := om_if ((Om.th.up (by decide)).up (by decide))
theorem om_O6 {M : Nat} {x y : Int32} : Om J (mO6 J M x y).1 := om_if (Om.th.up (by decide))
theorem om_O7 {M : Nat} {x : Int32} : Om J (mO7 J M x).1 := om_if (Om.th.up (by decide))
theorem om_O8 {M N : Nat} {x r w a y : Int32} : Om J (mO8 J M N x r w a y).1 := om_if (Om.tr ((((((Om.th.up (by decide)).up (by decide)).up (by decide)).up (by decide)).up (by decide)).up (by decide)) om_mCm)
theorem om_O9 {N : Nat} {x r w a : Int32} : Om J (mO9 J N x r w a).1 := om_if (Om.tr ((((Om.tr Om.th om_mLv).up (by decide)).up (by decide)).up (by decide) |>.up (by decide)) om_mCm)
theorem om_O10 {N : Nat} {x : Int32} : Om J (mO10 J N x).1 := om_if ((Om.tr Om.th om_mLv).up (by decide))
theorem om_O11 {N : Nat} {x y : Int32} : Om J (mO11 J N x y).1 := om_if (Om.th.up (by decide))
theorem om_O12 {M N : Nat} {x : Int32} : Om J (mO12 J M N x).1 := by
  unfold mO12
  split
  · exact Om.tr Om.th (om_mPL _ (th J 0, 0))
  · exact Om.th
theorem om_O13 {M N : Nat} {x r w a y : Int32} : Om J (mO13 J M N x r w a y).1 := om_if Om.th
theorem om_O14 {N : Nat} {x y w : Int32} : Om J (mO14 J N x y w).1 := om_if Om.th
theorem om_O15 {M n : Nat} {x y : Int32} : Om J (mO15 J M n x y).1 := om_if Om.th
theorem om_O16 {N : Nat} {x y : Int32} : Om J (mO16 J N x y).1 := om_if Om.th
theorem om_O17 {x y : Int32} : Om J (mO17 J x y).1 := om_if Om.th
/-- what points: after the calls -/
theorem RF.of9 (R : RF z P) (h : ∀ k, k ≠ 9 → P' k = P k) (h9 : ∀ i p q, i < 4 → P' 9 i p = some q → q < z.1) : RF z P' := by
  obtain ⟨r3, r4, r6, r7, -⟩ := R
  have h3 := h 3 (by decide)
  have h4 := h 4 (by decide)
  have h6 := h 6 (by decide)
  have h7 := h 7 (by decide)
  exact ⟨fun a q ha hq => r3 a q ha (by rw [← h3]; exact hq), fun j q hq => r4 j q (by rw [← h4]; exact hq), fun j q hq => r6 j q (by rw [← h6]; exact hq), fun j q hq => r7 j q (by rw [← h7]; exact hq), h9⟩
theorem RF.kp (R : RF z P) {i m : Nat} {x : Int32} (hm : m < z.1) : RF z (kpP P i m x) := R.of9 (fun k h => upP_kind h) (fun i2 p q hi hq => by
  unfold kpP at hq
  rw [upP_at] at hq
  split at hq
  · cases hq; exact hm
  · exact R.2.2.2.2 i2 p q hi hq)
theorem RF.tk (R : RF z P) {i : Nat} {x y : Int32} : RF z (tkP I P i x y) := R.of9 (fun k h => funext fun j => tkP_off h) (fun i2 p q hi hq => by
  unfold tkP at hq
  rcases hpy : py I P i x y with _ | w
  · rw [hpy] at hq; exact R.2.2.2.2 i2 p q hi hq
  · rw [hpy] at hq
    have hq : upP P 9 i (rg x) none 9 i2 p = some q := hq
    rw [upP_at] at hq
    by_cases e : 9 = 9 ∧ i2 = i ∧ p = rg x
    · rw [if_pos e] at hq; cases hq
    · rw [if_neg e] at hq; exact R.2.2.2.2 i2 p q hi hq)
theorem RF.lvL {i m h : Nat} (hm : m < z.1) : ∀ (n k : Nat) (s : wI × wP), RF z s.2 → RF z (lvL i m h n k s).2
  | 0, _, _, R => R
  | n + 1, k, s, R => RF.lvL hm n (k + 1) _ (R.kp hm)
theorem RF.lvR (R : RF z P) {h : Nat} (hm : mx P h < z.1) : RF z (lvR I P h).2 := by
  unfold CHearingpayLaw_law_r6972_369389.lvR
  split
  · split
    · exact R
    · exact RF.lvL hm _ _ (I, P) R
  · exact R
theorem RF.ptL {i m h : Nat} {fr now : Int32} : ∀ (n k : Nat) (s : wI × wP), RF z s.2 → RF z (ptL i m h fr now n k s).2
  | 0, _, _, R => R
  | n + 1, k, s, R => RF.ptL n (k + 1) _ R.tk
theorem RF.putC (R : RF z P) {h : Nat} {r w a : Int32} : RF z (putC I P h r w a).2 := by
  unfold CHearingpayLaw_law_r6972_369389.putC
  split
  · exact R
  · exact RF.ptL _ _ (sA I h r w a, P) R
theorem mx_lvL {i m h j : Nat} : ∀ (n k : Nat) (s : wI × wP), mx (lvL i m h n k s).2 j = mx s.2 j
  | 0, _, _ => rfl
  | n + 1, k, s => (mx_lvL n (k + 1) _).trans (by show mx (kpP s.2 i m _) j = _; unfold mx kpP; rw [upP_kind (by decide)])
theorem mx_lvR {h j : Nat} : mx (lvR I P h).2 j = mx P j := by
  unfold lvR
  split
  · split
    · rfl
    · exact mx_lvL _ _ (I, P)
  · rfl
theorem RF.daL {m : Nat} : ∀ (n h : Nat) (s : wI × wP × Int32), RF z s.2.1 → (∀ j, j < z.2 → mx s.2.1 j < z.1) → h + n = z.2 → RF z (daL m n h s).2.1
  | 0, _, _, R, _, _ => R
  | n + 1, h, s, R, hm, e => by
    refine RF.daL n (h + 1) (daS m h s) ?_ ?_ (by omega)
    · unfold daS
      split
      · split
        · exact R.lvR (hm h (by omega))
        · exact R
      · exact R
    · intro j hj
      have : mx (daS m h s).2.1 j = mx s.2.1 j := by
        unfold daS
        split
        · split
          · exact mx_lvR
          · rfl
        · rfl
      rw [this]
      exact hm j hj
theorem Sim.mxM (S : Sim z nw I P J) : ∀ j, j < z.2 → mx P j < z.1 := fun j hj => by rw [S.mxe hj]; exact S.mmM hj
theorem rf_O4 (R : RF z P) (S : Sim z nw I P J) {x : Int32} : RF z (cO4 I P z x).2.1 := RF.daL _ _ (upI I 2 x.toNatClampNeg 5 2, P, 0) R S.mxM (by omega)
theorem rf_O9 (R : RF z P) (S : Sim z nw I P J) {x r w a : Int32} (hx : x.toNatClampNeg < z.2) : RF z (cO9 I P x r w a).2 := RF.putC (R.lvR (S.mxM _ hx))
theorem rf_O10 (R : RF z P) (S : Sim z nw I P J) {x : Int32} (hx : x.toNatClampNeg < z.2) : RF z (cO10 I P x).2 := R.lvR (S.mxM _ hx)
theorem rf_O2 (R : RF z P) : RF (z.1 + 1, z.2) (upP P 6 0 z.1 (some z.1)) := by
  obtain ⟨r3, r4, r6, r7, r9⟩ := R
  have hP : ∀ k i c, k ≠ 6 → upP P 6 0 z.1 (some z.1) k i c = P k i c := fun k i c h => by rw [upP_at, if_neg (by omega)]
  refine ⟨fun a q ha hq => ?_, fun j q hq => ?_, fun j q hq => ?_, fun j q hq => ?_, fun i p q hi hq => ?_⟩
  · rw [hP _ _ _ (by decide)] at hq; exact Nat.lt_succ_of_lt (r3 a q ha hq)
  · rw [hP _ _ _ (by decide)] at hq; exact r4 j q hq
  · rw [upP_at] at hq
    split at hq
    · cases hq; exact Nat.lt_succ_self _
    · exact Nat.lt_succ_of_lt (r6 j q hq)
  · rw [hP _ _ _ (by decide)] at hq; exact r7 j q hq
  · rw [hP _ _ _ (by decide)] at hq; exact Nat.lt_succ_of_lt (r9 i p q hi hq)
theorem rf_O8 (R : RF z P) {N : Nat} (hN : N = z.2) {x r w a y : Int32} (hx : x.toNatClampNeg < z.1) : RF (z.1, z.2 + 1) (cO8 I P N x r w a y).2 := by
  subst hN
  refine RF.putC ?_
  obtain ⟨r3, r4, r6, r7, r9⟩ := R
  unfold cP8
  have hP : ∀ k i c, k ≠ 3 → k ≠ 7 → upP (upP P 3 z.2 1 (some x.toNatClampNeg)) 7 0 z.2 (some z.2) k i c = P k i c := fun k i c h1 h2 => by rw [upP_at, if_neg (by omega), upP_at, if_neg (by omega)]
  refine ⟨fun a q ha hq => ?_, fun j q hq => ?_, fun j q hq => ?_, fun j q hq => ?_, fun i p q hi hq => ?_⟩
  · have ha : a < z.2 + 1 := ha
    rw [upP_at, if_neg (by omega), upP_at] at hq
    by_cases e : a = z.2
    · rw [if_pos ⟨rfl, e, rfl⟩] at hq; cases hq; exact hx
    · rw [if_neg (fun h => e h.2.1)] at hq; exact r3 a q (by omega) hq
  · rw [hP _ _ _ (by decide) (by decide)] at hq; exact r4 j q hq
  · rw [hP _ _ _ (by decide) (by decide)] at hq; exact r6 j q hq
  · rw [upP_at] at hq
    split at hq
    · cases hq; exact Nat.lt_succ_self _
    · rw [upP_at, if_neg (by omega)] at hq; exact Nat.lt_succ_of_lt (r7 j q hq)
  · rw [hP _ _ _ (by decide) (by decide)] at hq; exact r9 i p q hi hq
end WOffs
