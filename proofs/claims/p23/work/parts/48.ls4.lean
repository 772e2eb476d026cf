section WLs4
variable {z : wZ} {nw : Nat} {I I' Ia : wI} {P P' : wP} {J J' : wI} {L L' : wR}
/-- the class, the reference's state and the law's rows are one -/
def Stt (z : wZ) (nw : Nat) (I : wI) (P : wP) (J : wI) : Prop := Sim z nw I P J ∧ YS (fun _ => False) z nw J (I 13) ∧ RF z P
theorem Stt.s (S : Stt z nw I P J) : Sim z nw I P J := S.1
theorem Stt.y (S : Stt z nw I P J) : YS (fun _ => False) z nw J (I 13) := S.2.1
theorem Stt.r (S : Stt z nw I P J) : RF z P := S.2.2
theorem Stt.pos (S : Stt z nw I P J) : ∀ h, h < z.2 → 0 < mh J h := fun _ hh => (S.s.A.h hh).2.2.2.2.2.2.2.2
theorem Sim.oth (S : Sim z nw I P J) (h : Oth I Ia) : Sim z nw Ia P J := S.cI (fun k hk => h k (by omega))
def dom4 (w : Int32) : Prop := w = -1 ∨ ∃ s, s < 4 ∧ w = nI s
theorem dom4_in {w : Int32} (h : dom4 w) : inR w (-1) 3 = true := by
  rcases h with rfl | ⟨s, hs, rfl⟩
  · decide
  · rw [inR_iff, nI_toInt (by omega)]
    exact ⟨by rw [show (-1 : Int32).toInt = -1 from by decide]; omega, by rw [show (3 : Int32).toInt = 3 from by decide]; omega⟩
theorem inR_nI {a lo hi : Nat} (h1 : lo ≤ a) (h2 : a ≤ hi) (h3 : hi < 2 ^ 30) : inR (nI a) (nI lo) (nI hi) = true := by
  rw [inR_iff, nI_toInt (by omega), nI_toInt (by omega), nI_toInt (by omega)]; omega
theorem oM_nF {j M : Nat} (h : j < M) (hM : M < 2 ^ 30) : oM (nI j) M = false := oM_F h rfl (by omega)
theorem lang_of {ex : Nat → Prop} (S : YS ex z nw J L) {m : Nat} (hm : m < z.1) : J 13 10 m = -1 ∨ ∃ d, d < 4 ∧ J 13 10 m = nI d := by
  obtain ⟨-, -, -, -, -, -, -, -, -, a9, a10⟩ := S.m.2.1 m hm
  have e : J 13 10 m = nI (lgN J m) - 1 := by rw [← a9, Int32.add_sub_cancel]
  by_cases h : lgN J m = 0
  · left; rw [e, h]; decide
  · right; refine ⟨lgN J m - 1, by omega, ?_⟩
    rw [e, ← nI1', pk_sub (by omega)]
theorem st_2 {ex : Nat → Prop} (S : YS ex z nw J L) {m v : Nat} (hm : m < z.1) (hv : v < 100) : J 13 6 m = nI v ↔ stN J m = v := by
  obtain ⟨-, -, -, -, -, -, -, a7, a8, -⟩ := S.m.2.1 m hm
  rw [a7, nI_eq (by omega) (by omega)]
theorem hs_0 {ex : Nat → Prop} (S : YS ex z nw J L) {h : Nat} (hh : h < z.2) : J 13 14 h = 0 ↔ hsN J h = 0 := by
  obtain ⟨-, -, -, -, -, -, -, -, -, -, a10, a11⟩ := S.a.2 h hh
  rw [a10, ← nI_0, nI_eq (by omega) (by omega)]
theorem mRe_0 {N m : Nat} {wh who at1 many but : Int32} : mRe J N m wh who at1 many but ≤ 0 ↔ mRe J N m wh who at1 many but = 0 := by
  rw [mRe_vB]; exact vB_le _ _ _ _
theorem K8_v {ex : Nat → Prop} (S : YS ex z nw J L) {j r f d : Nat} {w : Int32} (hj : j < z.1) (hr : r < 4) (hw : dom4 w) (hf : f ≤ 999) (hd : 0 < d) (hd4 : d ≤ 4) (hN : z.2 < 16) : mK8 J z.1 z.2 (nI j) (nI r) w (nI f) (nI d) = if f ≤ nw then 2 else if stN J j < 2 ∧ mFit J j w = true ∧ mRe J z.2 j (nI r) w (nI f) (nI d) (-1) = 0 then 0 else 3 := by
  have hM := S.M8
  have hn := S.n9
  have hc : (nI j).toNatClampNeg = j := nI_clamp (by omega)
  unfold mK8
  rw [hc, oM_nF hj (by omega), show inR (nI r) 0 3 = true from inR_nI (lo := 0) (hi := 3) (by omega) (by omega) (by omega), dom4_in hw, show inR (nI d) 1 4 = true from inR_nI (lo := 1) (hi := 4) (by omega) (by omega) (by omega), S.jn]
  have hfr : inR (nI f) (nI nw + 1) 999 = false ↔ f ≤ nw := by
    rw [fr_neg (by omega), nI_leI (by omega) (by omega)]
    constructor
    · rintro (h | h)
      · exact h
      · exact absurd h (by rw [show (999 : Int32) = nI 999 from by decide, nI_ltI (by omega) (by omega)]; omega)
    · exact Or.inl
  have hop := mOp_st S hj
  rw [if_neg (by simp)]
  by_cases h1 : f ≤ nw
  · rw [if_pos (Or.inl (hfr.mpr h1)), if_pos h1]
  · rw [if_neg (fun q => q.elim (fun q => h1 (hfr.mp q)) (fun q => by cases q)), if_neg h1]
    by_cases h2 : stN J j < 2 ∧ mFit J j w = true ∧ mRe J z.2 j (nI r) w (nI f) (nI d) (-1) = 0
    · rw [if_pos h2, if_neg]
      rintro (q | q | q | q)
      · rw [hop.mpr h2.1] at q; cases q
      · rw [h2.2.1] at q; cases q
      · omega
      · exact q (mRe_0.mpr h2.2.2)
    · rw [if_neg h2, if_pos]
      refine Classical.byContradiction fun q => h2 ⟨hop.mp ?_, ?_, ?_⟩
      · exact Bool.of_not_eq_false (fun e => q (Or.inl e))
      · exact Bool.of_not_eq_false (fun e => q (Or.inr (Or.inl e)))
      · exact Classical.byContradiction fun e => q (Or.inr (Or.inr (Or.inr (fun a => e (mRe_0.mp a)))))
theorem K9_v {ex : Nat → Prop} (S : YS ex z nw J L) (X : MI z.1 z.2 J) {h r f : Nat} {w : Int32} (hh : h < z.2) (hr : r < 4) (hw : dom4 w) (hf : f ≤ 999) : mK9 J z.2 (nI h) (nI r) w (nI f) = if f ≤ nw then 2 else if J 13 14 h = 0 ∧ nw < mfr J h ∧ mFit J (mm J h) w = true ∧ mRe J z.2 (mm J h) (nI r) w (nI f) (J 13 19 h) (nI h) = 0 then 0 else 3 := by
  have hN := S.N16
  have hn := S.n9
  have hc : (nI h).toNatClampNeg = h := nI_clamp (by omega)
  obtain ⟨e18, f9⟩ := X.fr hh
  unfold mK9
  rw [hc, oM_nF hh (by omega), show inR (nI r) 0 3 = true from inR_nI (lo := 0) (hi := 3) (by omega) (by omega) (by omega), dom4_in hw, S.jn]
  have hfr : inR (nI f) (nI nw + 1) 999 = false ↔ f ≤ nw := by
    rw [fr_neg (by omega), nI_leI (by omega) (by omega)]
    constructor
    · rintro (h | h)
      · exact h
      · exact absurd h (by rw [show (999 : Int32) = nI 999 from by decide, nI_ltI (by omega) (by omega)]; omega)
    · exact Or.inl
  have hle : J 13 18 h ≤ nI nw ↔ mfr J h ≤ nw := by rw [e18, nI_leI (by omega) (by omega)]
  rw [if_neg (by simp)]
  by_cases h1 : f ≤ nw
  · rw [if_pos (hfr.mpr h1), if_pos h1]
  · rw [if_neg (fun q => h1 (hfr.mp q)), if_neg h1]
    by_cases h2 : J 13 14 h = 0 ∧ nw < mfr J h ∧ mFit J (mm J h) w = true ∧ mRe J z.2 (mm J h) (nI r) w (nI f) (J 13 19 h) (nI h) = 0
    · rw [if_pos h2, if_neg]
      rintro (q | q | q | q)
      · exact q h2.1
      · have := hle.mp q; omega
      · rw [h2.2.2.1] at q; cases q
      · exact q (mRe_0.mpr h2.2.2.2)
    · rw [if_neg h2, if_pos]
      refine Classical.byContradiction fun q => h2 ⟨?_, ?_, ?_, ?_⟩
      · exact Classical.byContradiction fun e => q (Or.inl e)
      · exact Nat.not_le.mp fun e => q (Or.inr (Or.inl (hle.mpr e)))
      · exact Bool.of_not_eq_false (fun e => q (Or.inr (Or.inr (Or.inl e))))
      · exact Classical.byContradiction fun e => q (Or.inr (Or.inr (Or.inr (fun a => e (mRe_0.mp a)))))
theorem K10_v {ex : Nat → Prop} (S : YS ex z nw J L) (X : MI z.1 z.2 J) {h : Nat} (hh : h < z.2) : mK10 J z.2 (nI h) = if J 13 14 h = 0 ∧ nw < mfr J h then 0 else 2 := by
  have hN := S.N16
  have hn := S.n9
  have hc : (nI h).toNatClampNeg = h := nI_clamp (by omega)
  obtain ⟨e18, f9⟩ := X.fr hh
  unfold mK10
  rw [hc, oM_nF hh (by omega), S.jn]
  have hlt : nI nw < J 13 18 h ↔ nw < mfr J h := by rw [e18, nI_ltI (by omega) (by omega)]
  rw [if_neg (by simp)]
  by_cases h2 : J 13 14 h = 0 ∧ nw < mfr J h
  · rw [if_pos h2, if_neg]
    rintro (q | q)
    · exact q h2.1
    · exact q (hlt.mpr h2.2)
  · rw [if_neg h2, if_pos]
    refine Classical.byContradiction fun q => h2 ⟨?_, ?_⟩
    · exact Classical.byContradiction fun e => q (Or.inl e)
    · exact Classical.byContradiction fun e => q (Or.inr (fun a => e (hlt.mp a)))
theorem K11_v {ex : Nat → Prop} (S : YS ex z nw J L) {h p : Nat} (hh : h < z.2) (hp : p < 6) : mK11 J z.2 (nI h) (nI p) = if ¬ J 13 8 (mm J h) = nI p ∧ ¬ J 13 9 (mm J h) = nI p then 2 else if J 13 14 h = 0 then 0 else 3 := by
  have hN := S.N16
  have hc : (nI h).toNatClampNeg = h := nI_clamp (by omega)
  unfold mK11
  rw [hc, oM_nF hh (by omega), show inR (nI p) 0 5 = true from inR_nI (lo := 0) (hi := 5) (by omega) (by omega) (by omega), if_neg (by simp)]
theorem Ks_v {ex : Nat → Prop} (S : YS ex z nw J L) {m v : Nat} (hm : m < z.1) (hv : v < 100) {s : Int32} (hs : s = nI v) : mKs J z.1 (nI m) s = if stN J m = v then 0 else 2 := by
  have hM := S.M8
  have hc : (nI m).toNatClampNeg = m := nI_clamp (by omega)
  unfold mKs
  rw [hc, oM_nF hm (by omega), if_neg (by simp), hs]
  by_cases q : stN J m = v
  · rw [if_pos q, if_pos ((st_2 S hm hv).mpr q)]
  · rw [if_neg q, if_neg (fun e => q ((st_2 S hm hv).mp e))]
theorem K5_v {ex : Nat → Prop} (S : YS ex z nw J L) {m : Nat} (hm : m < z.1) : mK5 J z.1 (nI m) = if stN J m = 2 ∧ 0 ≤ J 13 11 m then 0 else 2 := by
  have hM := S.M8
  have hc : (nI m).toNatClampNeg = m := nI_clamp (by omega)
  unfold mK5
  rw [hc, oM_nF hm (by omega), if_neg (by simp)]
  have e : J 13 6 m = 2 ↔ stN J m = 2 := st_2 S hm (v := 2) (by omega)
  by_cases q : stN J m = 2 ∧ 0 ≤ J 13 11 m
  · rw [if_pos q, if_pos ⟨e.mpr q.1, q.2⟩]
  · rw [if_neg q, if_neg (fun a => q ⟨e.mp a.1, a.2⟩)]
/-- after a planning -/
theorem fin_plan {r f d j : Nat} {w : Int32} (S : Stt z nw I P J) (hO : Oth I Ia) (hj : j < z.1) (hK : mK8 J z.1 z.2 (nI j) (nI r) w (nI f) (nI d) = 0) (Y : YS (fun _ => False) (z.1, z.2 + 1) nw (mCm z.2 (mBase J z.2 (nI j) (nI r) w (nI f) (nI d))) (Ia 13)) : Stt (z.1, z.2 + 1) nw (cO8 Ia P z.2 (nI j) (nI r) w (nI f) (nI d)).1 (cO8 Ia P z.2 (nI j) (nI r) w (nI f) (nI d)).2 (mCm z.2 (mBase J z.2 (nI j) (nI r) w (nI f) (nI d))) := by
  have hM := S.y.M8
  have Sa := S.s.oth hO
  obtain ⟨-, h2, -⟩ := s_plan Sa (x := nI j) (r := nI r) (w := w) (a := nI f) (y := nI d)
  have e := cK8_eq Sa (x := nI j) (r := nI r) (w := w) (a := nI f) (y := nI d)
  have h3 := (h2 (e.trans hK)).2
  unfold mO8 at h3
  rw [if_pos hK] at h3
  refine ⟨h3, ?_, rf_O8 S.r rfl (by rw [nI_clamp (by omega)]; exact hj)⟩
  rw [show (cO8 Ia P z.2 (nI j) (nI r) w (nI f) (nI d)).1 13 = Ia 13 from og_O8 13 (by decide)]
  exact Y
theorem fin_move {r f h : Nat} {w : Int32} (S : Stt z nw I P J) (hO : Oth I Ia) (hh : h < z.2) (hK : mK9 J z.2 (nI h) (nI r) w (nI f) = 0) (Y : YS (fun _ => False) z nw (mCm h (mMv (mLv h (th J 0)) h (nI r) w (nI f))) (Ia 13)) : Stt z nw (cO9 Ia P (nI h) (nI r) w (nI f)).1 (cO9 Ia P (nI h) (nI r) w (nI f)).2 (mCm h (mMv (mLv h (th J 0)) h (nI r) w (nI f))) ∧ (cO9 Ia P (nI h) (nI r) w (nI f)).1 2 (mx (cO9 Ia P (nI h) (nI r) w (nI f)).2 (nI h).toNatClampNeg) 6 = mCm h (mMv (mLv h (th J 0)) h (nI r) w (nI f)) 13 11 (mm J h) := by
  have hN := S.y.N16
  have hc : (nI h).toNatClampNeg = h := nI_clamp (by omega)
  have Sa := S.s.oth hO
  obtain ⟨-, h2, -⟩ := s_move Sa (x := nI h) (r := nI r) (w := w) (a := nI f)
  have e := cK9_eq Sa (x := nI h) (r := nI r) (w := w) (a := nI f)
  have h3 := h2 (e.trans hK)
  unfold mO9 mB9 at h3
  rw [if_pos hK, hc] at h3
  refine ⟨⟨h3.2, ?_, rf_O9 S.r Sa (by rw [hc]; exact hh)⟩, by rw [hc]; exact h3.1⟩
  rw [show (cO9 Ia P (nI h) (nI r) w (nI f)).1 13 = Ia 13 from og_O9 13 (by decide)]
  exact Y
theorem cK10_eq (S : Sim z nw I P J) {x : Int32} : cK10 I z.2 x = mK10 J z.2 x := by
  by_cases h : mK10 J z.2 x = 0
  · have q := (s_drop S (x := x)).1
    unfold mO10 at q
    rw [if_pos h] at q
    rw [h, ← q]
    show upI (mLv x.toNatClampNeg (th J 0)) 13 14 x.toNatClampNeg 3 12 0 0 = 0
    rw [upI_at, if_neg (by omega), mLv_0]
    exact thv J 0
  · have q := (s_drop S (x := x)).1
    unfold mO10 at q
    rw [if_neg h] at q
    rw [← q]
    exact thv J _
theorem fin_drop {h : Nat} (S : Stt z nw I P J) (hO : Oth I Ia) (hh : h < z.2) (hK : mK10 J z.2 (nI h) = 0) (Y : YS (fun _ => False) z nw (upI (mLv h (th J 0)) 13 14 h 3) (Ia 13)) : Stt z nw (cO10 Ia P (nI h)).1 (cO10 Ia P (nI h)).2 (upI (mLv h (th J 0)) 13 14 h 3) ∧ (cO10 Ia P (nI h)).1 2 (mx (cO10 Ia P (nI h)).2 (nI h).toNatClampNeg) 6 = upI (mLv h (th J 0)) 13 14 h 3 13 11 (mm J h) := by
  have hN := S.y.N16
  have hc : (nI h).toNatClampNeg = h := nI_clamp (by omega)
  have Sa := S.s.oth hO
  obtain ⟨-, h2, -⟩ := s_drop Sa (x := nI h)
  have e : cK10 Ia z.2 (nI h) = mK10 J z.2 (nI h) := cK10_eq Sa
  have h3 := h2 (e.trans hK)
  unfold mO10 mB10 at h3
  rw [if_pos hK, hc] at h3
  have em : mm (upI (mLv h (th J 0)) 13 14 h 3) h = mm J h := by unfold mm; rw [upI_at, if_neg (by omega), mLv_off (by decide) (by decide) (by decide), th_13]
  rw [em] at h3
  refine ⟨⟨h3.2, ?_, rf_O10 S.r Sa (by rw [hc]; exact hh)⟩, by rw [hc]; exact h3.1⟩
  rw [show (cO10 Ia P (nI h)).1 13 = Ia 13 from og_O10 13 (by decide)]
  exact Y
theorem cK11_eq (S : Sim z nw I P J) {x y : Int32} : cK11 I P z.2 x y = mK11 J z.2 x y := by
  have q := (s_notice S (x := x) (y := y)).1
  unfold mO11 at q
  by_cases h : mK11 J z.2 x y = 0
  · rw [if_pos h] at q
    rw [h, ← q]
    dsimp only
    rw [upI_at, if_neg (by omega)]
    exact thv J 0
  · rw [if_neg h] at q
    rw [← q]
    exact thv J _
theorem fin_notice {h p : Nat} {v b : Int32} (S : Stt z nw I P J) (hO : Oth I Ia) (hh : h < z.2) (hK : mK11 J z.2 (nI h) (nI p) = 0) (hb : b = if J 13 18 h - J 12 0 1 < 4 then 0 else if J 13 8 (mm J h) = nI p then 1 else 2) (hv : v = J 13 20 h ||| b) (Y : YS (fun _ => False) z nw (upI J 13 20 h v) (Ia 13)) : Stt z nw (cO11 Ia P (nI h) (nI p)).1 P (upI (th J 0) 13 20 h v) ∧ (cO11 Ia P (nI h) (nI p)).2 = if J 13 18 h - J 12 0 1 < 4 then 0 else 1 := by
  have hN := S.y.N16
  have hc : (nI h).toNatClampNeg = h := nI_clamp (by omega)
  have Sa := S.s.oth hO
  obtain ⟨-, h2, -⟩ := s_notice Sa (x := nI h) (y := nI p)
  have h3 := h2 ((cK11_eq Sa).trans hK)
  unfold mO11 at h3
  rw [if_pos hK, hc] at h3
  rw [hv, hb]
  refine ⟨⟨h3.2, ?_, S.r⟩, h3.1⟩
  rw [show (cO11 Ia P (nI h) (nI p)).1 13 = Ia 13 from og_O11 13 (by decide), ← hb, ← hv]
  have : upI (th J 0) 13 20 h v = th (upI J 13 20 h v) 0 := upI_swap J (by omega)
  rw [this]
  exact Y.thr 0
theorem Stt.oth (S : Stt z nw I P J) (hO : Oth I Ia) (Y : YS (fun _ => False) z nw J (Ia 13)) : Stt z nw Ia P J := ⟨S.s.oth hO, Y, S.r⟩
/-- the hours of a planned hearing are free to become paid time -/
theorem Stt.ap (S : Stt z nw I P J) {h : Nat} (hh : h < z.2) (hp : J 13 14 h = 0) : ¬ J 13 17 h = -1 → AP h z.2 J := fun hs => S.s.A.nc.ap S.s.M hh hp hs
theorem YS.fre {ex : Nat → Prop} (S : YS ex z nw J L) {h : Nat} (hh : h < z.2) (hx : ¬ ex h) (hp : J 13 14 h = 0) : ∀ k, k < mh J h → ¬ J 13 17 h = -1 → nw < mfr J h + k → mpy J (1004 * msp J h + (mfr J h + k)) = 0 := fun k hk hs ht => S.p h k hh hx hp hk hs ht
/-- behind the coming of h, its hours aren't paid time -/
theorem cm_zeros {h : Nat} (X : MI z.1 z.2 J) (hh : h < z.2) : ∀ k, k < mh (mCm h J) h → ¬ mCm h J 13 17 h = -1 → mpy (mCm h J) (1004 * msp (mCm h J) h + (mfr (mCm h J) h + k)) = 0 := by
  by_cases e : J 13 17 h = -1
  · have q : mCm h J 13 17 h = J 13 17 h := by
      unfold mCm; rw [if_pos e]
      have key : ∀ (n k : Nat) (J : wI), mC0L h (mm J h) n k J 13 17 h = J 13 17 h := fun n => by
        intro k J
        generalize mm J h = mmm
        induction n generalizing k J with
        | zero => rfl
        | succ n ih =>
          show mC0L h mmm n (k + 1) (mC0S h mmm k J) 13 17 h = _
          rw [ih]
          unfold mC0S
          rw [upI_at, if_neg (by omega), upI_at, if_neg (by omega)]
      exact key _ _ _
    exact fun k _ hs => absurd (q.trans e) hs
  · unfold mCm
    rw [if_neg e]
    have a := fun f h1 h2 h3 h4 => mCmL_rw (h := h) (m := mm J h) (f := f) (x := h) h1 h2 h3 h4 (mh J h) 0 J
    have e1 : mh (mCmL h (mm J h) (mh J h) 0 J) h = mh J h := congrArg Int32.toNatClampNeg (a 19 (by decide) (by decide) (by decide) (by decide))
    have e2 : msp (mCmL h (mm J h) (mh J h) 0 J) h = msp J h := by unfold msp; rw [a 17 (by decide) (by decide) (by decide) (by decide)]
    have e3 : mfr (mCmL h (mm J h) (mh J h) 0 J) h = mfr J h := by unfold mfr; rw [a 18 (by decide) (by decide) (by decide) (by decide)]
    rw [e1, e2, e3]
    exact fun k hk _ => mCmL_zero (mh J h) 0 J rfl rfl k (Or.inl ⟨by omega, by omega⟩)
end WLs4
