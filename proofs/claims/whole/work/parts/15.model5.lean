section WModel5
theorem up12_13 (I : wI) (v : Int32) (j c : Nat) : upI I 12 0 0 v 13 j c = I 13 j c := by rw [upI_at, if_neg (by omega)]
theorem up12_1 (I : wI) (v : Int32) : upI I 12 0 0 v 12 0 1 = I 12 0 1 := by rw [upI_at, if_neg (by omega)]
theorem inR_iff {x lo hi : Int32} : inR x lo hi = true ↔ lo.toInt ≤ x.toInt ∧ x.toInt ≤ hi.toInt := by
  simp only [inR, Bool.and_eq_true, Bool.not_eq_true', decide_eq_false_iff_not, Int32.lt_iff_toInt_lt]
  omega
theorem nI_nat {x : Int32} (h : 0 ≤ x.toInt) : x = nI x.toInt.toNat := by
  obtain ⟨j, hj, e⟩ := nI_of (x := x) (by rw [Int32.lt_iff_toInt_lt, Int32.toInt_zero]; omega)
  rw [e, nI_toInt hj]
  simp
theorem inR_lo {y : Int32} {lo hi : Nat} (hlo : lo < 2 ^ 31) (hhi : hi < 2 ^ 31) (h : inR y (nI lo) (nI hi) = true) : ∃ k, lo ≤ k ∧ k ≤ hi ∧ y = nI k := by
  rw [inR_iff, nI_toInt hlo, nI_toInt hhi] at h
  exact ⟨y.toInt.toNat, by omega, by omega, nI_nat (by omega)⟩
theorem inR_fr {a now : Int32} {nw : Nat} (hn : now = nI nw) (hnw : nw ≤ 1000) (h : inR a (now + 1) 999 = true) : ∃ f, f ≤ 999 ∧ nw < f ∧ a = nI f := by
  rw [hn, nI_1] at h
  obtain ⟨k, h1, h2, h3⟩ := inR_lo (lo := nw + 1) (hi := 999) (by omega) (by omega) h
  exact ⟨k, h2, by omega, h3⟩
theorem inR_sp {w : Int32} (h : inR w (-1) 3 = true) : w = -1 ∨ ∃ s, s < 4 ∧ w = nI s := by
  rw [inR_iff, show (-1 : Int32).toInt = -1 from by decide, show (3 : Int32).toInt = 3 from by decide] at h
  by_cases e : w.toInt = -1
  · exact Or.inl (Int32.toInt_inj.mp (e.trans (by decide)))
  · exact Or.inr ⟨w.toInt.toNat, by omega, nI_nat (by omega)⟩
def mBase (I : wI) (N : Nat) (x r w a y : Int32) : wI := upI (upI (upI (upI (upI (upI (th I 0) 12 0 13 (nI (N + 1))) 13 15 N x) 13 16 N r) 13 17 N w) 13 18 N a) 13 19 N y
theorem MI.plan {M N : Nat} {I : wI} (X : MI M N I) (hN : N < 24) {j k f : Nat} {r w : Int32} (hj : j < M) (hk : k ≤ 4) (hf : f ≤ 999) (hw : w = -1 ∨ ∃ s, s < 4 ∧ w = nI s) : MI M (N + 1) (mBase I N (nI j) r w (nI f) (nI k)) := by
  have hM := X.1
  refine ⟨X.1, by omega, ?_, ?_, fun h hh => ?_, fun h hh => ?_, fun h hh => ?_, fun h hh => ?_, fun m hm => ?_, fun q hq => ?_⟩
  · simp [mBase, th, upI_at]; exact X.2.2.1
  · simp [mBase, th, upI_at]
  · by_cases e : h = N
    · subst e
      simp [mm, mBase, th, upI_at]
      rw [nI_clamp (by omega)]
      exact ⟨rfl, hj⟩
    · have := X.2.2.2.2.1 h (by omega)
      simp [mm, mBase, th, upI_at, e]
      exact this
  · by_cases e : h = N
    · subst e
      simp [mh, mBase, th, upI_at]
      rw [nI_clamp (by omega)]
      exact ⟨rfl, hk⟩
    · have := X.2.2.2.2.2.1 h (by omega)
      simp [mh, mBase, th, upI_at, e]
      exact this
  · by_cases e : h = N
    · subst e
      simp [msp, mBase, th, upI_at]
      rcases hw with hw | ⟨s, h1, h2⟩
      · exact Or.inl hw
      · refine Or.inr ?_
        rw [h2, nI_clamp (by omega)]
        exact ⟨rfl, h1⟩
    · have := X.2.2.2.2.2.2.1 h (by omega)
      simp [msp, mBase, th, upI_at, e]
      exact this
  · by_cases e : h = N
    · subst e
      simp [mfr, mBase, th, upI_at]
      rw [nI_clamp (by omega)]
      exact ⟨rfl, hf⟩
    · have := X.2.2.2.2.2.2.2.1 h (by omega)
      simp [mfr, mBase, th, upI_at, e]
      exact this
  · have := X.fs hm
    simp [mf, mBase, th, upI_at]
    exact this
  · have := X.py hq
    simp [mpy, mBase, th, upI_at]
    exact this
def mMv (I : wI) (j : Nat) (r w a : Int32) : wI := upI (upI (upI (upI I 13 16 j r) 13 17 j w) 13 18 j a) 13 20 j 0
theorem MI.mv {M N : Nat} {I : wI} (X : MI M N I) {j f : Nat} {r w : Int32} (hf : f ≤ 999) (hw : w = -1 ∨ ∃ s, s < 4 ∧ w = nI s) : MI M N (mMv I j r w (nI f)) := by
  have hM := X.1
  refine ⟨X.1, X.2.1, ?_, ?_, fun h hh => ?_, fun h hh => ?_, fun h hh => ?_, fun h hh => ?_, fun m hm => ?_, fun q hq => ?_⟩
  · simp [mMv, upI_at]; exact X.2.2.1
  · simp [mMv, upI_at]; exact X.2.2.2.1
  · have := X.2.2.2.2.1 h hh
    simp [mm, mMv, upI_at]
    exact this
  · have := X.2.2.2.2.2.1 h hh
    simp [mh, mMv, upI_at]
    exact this
  · by_cases e : h = j
    · subst e
      simp [msp, mMv, upI_at]
      rcases hw with hw | ⟨s, h1, h2⟩
      · exact Or.inl hw
      · refine Or.inr ?_
        rw [h2, nI_clamp (by omega)]
        exact ⟨rfl, h1⟩
    · have := X.2.2.2.2.2.2.1 h hh
      simp [msp, mMv, upI_at, e]
      exact this
  · by_cases e : h = j
    · subst e
      simp [mfr, mMv, upI_at]
      rw [nI_clamp (by omega)]
      exact ⟨rfl, hf⟩
    · have := X.2.2.2.2.2.2.2.1 h hh
      simp [mfr, mMv, upI_at, e]
      exact this
  · have := X.fs hm
    simp [mf, mMv, upI_at]
    exact this
  · have := X.py hq
    simp [mpy, mMv, upI_at]
    exact this
def mK8 (I : wI) (M N : Nat) (x r w a y : Int32) : Int32 := if oM x M = true ∨ inR r 0 3 = false ∨ inR w (-1) 3 = false then 1 else if inR a (I 12 0 1 + 1) 999 = false ∨ inR y 1 4 = false then 2 else if mOp I x.toNatClampNeg = false ∨ mFit I x.toNatClampNeg w = false ∨ N = 24 ∨ ¬ mRe I N x.toNatClampNeg r w a y (-1) ≤ 0 then 3 else 0
def mO8 (I : wI) (M N : Nat) (x r w a y : Int32) : wI × Int32 := if mK8 I M N x r w a y = 0 then (mCm N (mBase I N x r w a y), nI N) else (th I (mK8 I M N x r w a y), 0)
def mK9 (I : wI) (N : Nat) (x r w a : Int32) : Int32 := if oM x N = true ∨ inR r 0 3 = false ∨ inR w (-1) 3 = false then 1 else if inR a (I 12 0 1 + 1) 999 = false then 2 else if ¬ I 13 14 x.toNatClampNeg = 0 ∨ I 13 18 x.toNatClampNeg ≤ I 12 0 1 ∨ mFit I (mm I x.toNatClampNeg) w = false ∨ ¬ mRe I N (mm I x.toNatClampNeg) r w a (I 13 19 x.toNatClampNeg) x ≤ 0 then 3 else 0
def mB9 (I : wI) (x r w a : Int32) : wI := mCm x.toNatClampNeg (mMv (mLv x.toNatClampNeg (th I 0)) x.toNatClampNeg r w a)
def mO9 (I : wI) (N : Nat) (x r w a : Int32) : wI × Int32 := if mK9 I N x r w a = 0 then (mB9 I x r w a, mB9 I x r w a 13 11 (mm I x.toNatClampNeg)) else (th I (mK9 I N x r w a), 0)
def mK10 (I : wI) (N : Nat) (x : Int32) : Int32 := if oM x N = true then 1 else if ¬ I 13 14 x.toNatClampNeg = 0 ∨ ¬ I 12 0 1 < I 13 18 x.toNatClampNeg then 2 else 0
def mB10 (I : wI) (x : Int32) : wI := upI (mLv x.toNatClampNeg (th I 0)) 13 14 x.toNatClampNeg 3
def mO10 (I : wI) (N : Nat) (x : Int32) : wI × Int32 := if mK10 I N x = 0 then (mB10 I x, mB10 I x 13 11 (mm (mB10 I x) x.toNatClampNeg)) else (th I (mK10 I N x), 0)
def mK11 (I : wI) (N : Nat) (x y : Int32) : Int32 := if oM x N = true ∨ inR y 0 5 = false then 1 else if ¬ I 13 8 (mm I x.toNatClampNeg) = y ∧ ¬ I 13 9 (mm I x.toNatClampNeg) = y then 2 else if I 13 14 x.toNatClampNeg = 0 then 0 else 3
def mO11 (I : wI) (N : Nat) (x y : Int32) : wI × Int32 := if mK11 I N x y = 0 then (upI (th I 0) 13 20 x.toNatClampNeg (I 13 20 x.toNatClampNeg ||| (if I 13 18 x.toNatClampNeg - I 12 0 1 < 4 then 0 else if I 13 8 (mm I x.toNatClampNeg) = y then 1 else 2)), if I 13 18 x.toNatClampNeg - I 12 0 1 < 4 then 0 else 1) else (th I (mK11 I N x y), 0)
def mK13 (M : Nat) (x r w a y : Int32) : Int32 := if oM x M = true ∨ inR r 0 3 = false ∨ inR w (-1) 3 = false then 1 else if inR a 0 999 = false ∨ inR y 1 4 = false then 2 else 0
def mO13 (I : wI) (M N : Nat) (x r w a y : Int32) : wI × Int32 := if mK13 M x r w a y = 0 then (th I 0, mRe (th I 0) N x.toNatClampNeg r w a y (-1)) else (th I (mK13 M x r w a y), 0)
def mK15 (M : Nat) (x y : Int32) : Int32 := if oM x M = true then 1 else if inR y 0 7 = true then 0 else 2
def mV15 (I : wI) (nw m : Nat) (y : Int32) : Int32 := if y = 0 then I 13 6 m else if y = 1 then I 13 7 m else if y = 2 then I 13 8 m else if y = 3 then I 13 9 m else if y = 4 then I 13 10 m else if y = 5 then I 13 11 m else if y = 6 then I 13 12 m else tcO (th I 0) (nI m) nw 4 0 0
def mO15 (I : wI) (M nw : Nat) (x y : Int32) : wI × Int32 := if mK15 M x y = 0 then (th I 0, mV15 I nw x.toNatClampNeg y) else (th I (mK15 M x y), 0)
def mV16 (I : wI) (h : Nat) (y : Int32) : Int32 := if y = 0 then I 13 14 h else if y = 1 then I 13 15 h else if y = 2 then I 13 16 h else if y = 3 then I 13 17 h else if y = 4 then I 13 18 h else if y = 5 then I 13 19 h else if y = 6 then (I 13 20 h &&& 1) + (I 13 20 h >>> ((1 : Int32) &&& 31)) else I 13 21 (4 * h) + I 13 21 (4 * h + 1) + I 13 21 (4 * h + 2) + I 13 21 (4 * h + 3)
def mO16 (I : wI) (N : Nat) (x y : Int32) : wI × Int32 := if mK15 N x y = 0 then (th I 0, mV16 I x.toNatClampNeg y) else (th I (mK15 N x y), 0)
def mK17 (x y : Int32) : Int32 := if inR x 0 3 = true ∧ inR y 0 1003 = true then 0 else 1
def mO17 (I : wI) (x y : Int32) : wI × Int32 := if mK17 x y = 0 then (th I 0, if y ≤ I 12 0 1 then -1 else I 13 22 (1004 * x.toNatClampNeg + y.toNatClampNeg) - 1) else (th I (mK17 x y), 0)
theorem tsw7 (x : Int32) : x = 0 ∨ x = 1 ∨ x = 2 ∨ x = 3 ∨ x = 4 ∨ x = 5 ∨ x = 6 ∨ (x.toInt < 0 ∨ 6 < x.toInt) := by
  by_cases h : x.toInt < 0 ∨ 6 < x.toInt
  · exact Or.inr (Or.inr (Or.inr (Or.inr (Or.inr (Or.inr (Or.inr h))))))
  · have h3 : x.toInt = 0 ∨ x.toInt = 1 ∨ x.toInt = 2 ∨ x.toInt = 3 ∨ x.toInt = 4 ∨ x.toInt = 5 ∨ x.toInt = 6 := by omega
    rcases h3 with h3 | h3 | h3 | h3 | h3 | h3 | h3
    · exact Or.inl (Int32.toInt_inj.mp h3)
    · exact Or.inr (Or.inl (Int32.toInt_inj.mp h3))
    · exact Or.inr (Or.inr (Or.inl (Int32.toInt_inj.mp h3)))
    · exact Or.inr (Or.inr (Or.inr (Or.inl (Int32.toInt_inj.mp h3))))
    · exact Or.inr (Or.inr (Or.inr (Or.inr (Or.inl (Int32.toInt_inj.mp h3)))))
    · exact Or.inr (Or.inr (Or.inr (Or.inr (Or.inr (Or.inl (Int32.toInt_inj.mp h3))))))
    · exact Or.inr (Or.inr (Or.inr (Or.inr (Or.inr (Or.inr (Or.inl (Int32.toInt_inj.mp h3)))))))
theorem tsw7n {x : Int32} (h : x.toInt < 0 ∨ 6 < x.toInt) : ¬ x = 0 ∧ ¬ x = 1 ∧ ¬ x = 2 ∧ ¬ x = 3 ∧ ¬ x = 4 ∧ ¬ x = 5 ∧ ¬ x = 6 := by
  refine ⟨?_, ?_, ?_, ?_, ?_, ?_, ?_⟩ <;> (intro e; rw [e] at h; revert h; decide)
set_option maxRecDepth 20000 in
theorem m_X4_plan {l : Launch} {g : wG} {z : wZ} {I : wI} {P : wP} {O : wO} {M N nw : Nat} {x r w a y : Int32} (X : MI M N I) (hnow : I 12 0 1 = nI nw) (hnw : nw ≤ 1000) : RT l yX4_plan cX4_plan 7 ((some .int)) { frames := 3, cells := 0, slots := 0, locals := 81 } g z [.ref (g.2.2 12 0), .int x, .int r, .int w, .int a, .int y] I P O (dp (some (.int (mO8 I M N x r w a y).2)) ((mO8 I M N x r w a y).1) (P)) := by
  refine RT.of (own := RX4) rfl (by decide +kernel) (Nat.le_of_ble_eq_true rfl) rfl (fun K C hl hg hR => ?_)
  subst hl
  subst hg
  have hNN := X.2.2.2.1
  have hN24 := X.2.1
  refine g_aload_n (pc' := 1) C dX4_plan_0 rfl rfl ?_
  refine g_iload_n (pc' := 2) C dX4_plan_1 rfl rfl ?_
  rcases in_of x M (by have := X.1; have := X.2.1; omega) with ⟨j, hj, hxj⟩ | hx
  · have hn : oM x M = false := oM_F hj hxj (by have := X.1; have := X.2.1; omega)
    have hcl : x.toNatClampNeg = j := by rw [hxj]; exact nI_clamp (by have := X.1; have := X.2.1; omega)
    have hcap : j < 12 := by have := X.1; have := X.2.1; omega
    refine k_X4_88 (pc' := 5) C (m_X4_isMatterS X hxj hj) dX4_plan_2 (by first | assumption | exact rfl | exact al13 rfl | exact Nat.le_of_ble_eq_true rfl) ⟨⟨Nat.le_of_ble_eq_true rfl, Nat.le_of_ble_eq_true rfl⟩, rfl, rfl⟩ (Nat.le_of_ble_eq_true rfl) ⟨Nat.zero_le _, Nat.zero_le _⟩ rfl ?_
    refine g_if_eq (tgt := 24) (pc' := 8) C dX4_plan_5 (by decide) rfl (fun c1 => absurd c1 (by first | decide | rw [thv]; decide)) (fun c1 => ?_)
    refine g_iload_n (pc' := 9) C dX4_plan_8 rfl rfl ?_
    refine g_iconst (v := 0) (pc' := 10) C dX4_plan_9 (by decide) rfl ?_
    refine g_iconst (v := 3) (pc' := 11) C dX4_plan_10 (by decide) rfl ?_
    refine k_X4_78 (pc' := 14) C (m_X4_in) dX4_plan_11 ⟨⟨Nat.le_of_ble_eq_true rfl, Nat.le_of_ble_eq_true rfl⟩, rfl, rfl⟩ (Nat.le_of_ble_eq_true rfl) ⟨Nat.zero_le _, Nat.zero_le _⟩ rfl ?_
    refine g_if_eq (tgt := 24) (pc' := 17) C dX4_plan_14 (by decide) rfl (fun c2 => ?_) (fun c2 => ?_)
    ·
      have c2 := b2_0.mp c2
      refine g_aload_n (pc' := 25) C dX4_plan_24 rfl rfl ?_
      refine g_iconst (v := 1) (pc' := 26) C dX4_plan_25 (by decide) rfl ?_
      refine p_X4_71 (pc' := 29) C dX4_plan_26 (by first | assumption | exact rfl | exact al13 rfl | exact Nat.le_of_ble_eq_true rfl) rfl ?_
      refine g_iconst (v := 0) (pc' := 30) C dX4_plan_29 (by decide) rfl ?_
      exact g_iret C hR dX4_plan_30 ⟨by simp [mO8, mK8, th, hn, hcl, c1, c2], by simp [mO8, mK8, th, hn, hcl, c1, c2], rfl⟩
    ·
      have c2 := b2_1.mp c2
      refine g_iload_n (pc' := 18) C dX4_plan_17 rfl rfl ?_
      refine k_X4_104 (pc' := 21) C (m_X4_isSpeaker) dX4_plan_18 ⟨⟨Nat.le_of_ble_eq_true rfl, Nat.le_of_ble_eq_true rfl⟩, rfl, rfl⟩ (Nat.le_of_ble_eq_true rfl) ⟨Nat.zero_le _, Nat.zero_le _⟩ rfl ?_
      refine g_if_ne (tgt := 31) (pc' := 24) C dX4_plan_21 (by decide) rfl (fun c3 => ?_) (fun c3 => ?_)
      ·
        have c3 := b2_1.mp c3
        refine g_aload_n (pc' := 32) C dX4_plan_31 rfl rfl ?_
        refine g_iload (pc' := 34) C dX4_plan_32 rfl rfl ?_
        refine g_aload_n (pc' := 35) C dX4_plan_34 rfl rfl ?_
        refine f_X4_85 (pc' := 38) C dX4_plan_35 (by first | assumption | exact rfl | exact al13 rfl | exact Nat.le_of_ble_eq_true rfl) rfl ?_
        refine g_iconst (v := 1) (pc' := 39) C dX4_plan_38 (by decide) rfl ?_
        refine g_iadd (pc' := 40) C dX4_plan_39 rfl ?_
        refine g_sipush (v := 999) (pc' := 43) C dX4_plan_40 (by decide) rfl ?_
        refine k_X4_78 (pc' := 46) C (m_X4_in) dX4_plan_43 ⟨⟨Nat.le_of_ble_eq_true rfl, Nat.le_of_ble_eq_true rfl⟩, rfl, rfl⟩ (Nat.le_of_ble_eq_true rfl) ⟨Nat.zero_le _, Nat.zero_le _⟩ rfl ?_
        refine g_if_eq (tgt := 59) (pc' := 49) C dX4_plan_46 (by decide) rfl (fun c4 => ?_) (fun c4 => ?_)
        ·
          have c4 := b2_0.mp c4
          refine g_iconst (v := 2) (pc' := 60) C dX4_plan_59 (by decide) rfl ?_
          refine g_goto (tgt := 109) C dX4_plan_60 (by decide) ?_
          refine p_X4_71 (pc' := 112) C dX4_plan_109 (by first | assumption | exact rfl | exact al13 rfl | exact Nat.le_of_ble_eq_true rfl) rfl ?_
          refine g_aload_n (pc' := 113) C dX4_plan_112 rfl rfl ?_
          refine f_X4_71 (pc' := 116) C dX4_plan_113 (by first | assumption | exact rfl | exact al13 rfl | exact Nat.le_of_ble_eq_true rfl) rfl ?_
          refine g_if_le (tgt := 121) (pc' := 119) C dX4_plan_116 (by decide) rfl (fun c5 => absurd c5 (by first | decide | rw [thv]; decide)) (fun c5 => ?_)
          refine g_iconst (v := 0) (pc' := 120) C dX4_plan_119 (by decide) rfl ?_
          exact g_iret C hR dX4_plan_120 ⟨by simp [mO8, mK8, th, hn, hcl, c1, c2, c3, c4, c5], by simp [mO8, mK8, th, hn, hcl, c1, c2, c3, c4, c5], rfl⟩
        ·
          have c4 := b2_1.mp c4
          refine g_iload (pc' := 51) C dX4_plan_49 rfl rfl ?_
          refine g_iconst (v := 1) (pc' := 52) C dX4_plan_51 (by decide) rfl ?_
          refine g_iconst (v := 4) (pc' := 53) C dX4_plan_52 (by decide) rfl ?_
          refine k_X4_78 (pc' := 56) C (m_X4_in) dX4_plan_53 ⟨⟨Nat.le_of_ble_eq_true rfl, Nat.le_of_ble_eq_true rfl⟩, rfl, rfl⟩ (Nat.le_of_ble_eq_true rfl) ⟨Nat.zero_le _, Nat.zero_le _⟩ rfl ?_
          refine g_if_ne (tgt := 63) (pc' := 59) C dX4_plan_56 (by decide) rfl (fun c6 => ?_) (fun c6 => ?_)
          ·
            have c6 := b2_1.mp c6
            refine g_aload_n (pc' := 64) C dX4_plan_63 rfl rfl ?_
            refine g_iload_n (pc' := 65) C dX4_plan_64 rfl rfl ?_
            refine k_X4_107 (pc' := 68) C (m_X4_isOpen hxj hcap) dX4_plan_65 (by first | assumption | exact rfl | exact al13 rfl | exact Nat.le_of_ble_eq_true rfl) ⟨⟨Nat.le_of_ble_eq_true rfl, Nat.le_of_ble_eq_true rfl⟩, rfl, rfl⟩ (Nat.le_of_ble_eq_true rfl) ⟨Nat.zero_le _, Nat.zero_le _⟩ rfl ?_
            refine g_if_eq (tgt := 104) (pc' := 71) C dX4_plan_68 (by decide) rfl (fun c7 => ?_) (fun c7 => ?_)
            ·
              have c7 := b2_0.mp c7
              refine g_iconst (v := 3) (pc' := 105) C dX4_plan_104 (by decide) rfl ?_
              refine g_goto (tgt := 109) C dX4_plan_105 (by decide) ?_
              refine p_X4_71 (pc' := 112) C dX4_plan_109 (by first | assumption | exact rfl | exact al13 rfl | exact Nat.le_of_ble_eq_true rfl) rfl ?_
              refine g_aload_n (pc' := 113) C dX4_plan_112 rfl rfl ?_
              refine f_X4_71 (pc' := 116) C dX4_plan_113 (by first | assumption | exact rfl | exact al13 rfl | exact Nat.le_of_ble_eq_true rfl) rfl ?_
              refine g_if_le (tgt := 121) (pc' := 119) C dX4_plan_116 (by decide) rfl (fun c8 => absurd c8 (by first | decide | rw [thv]; decide)) (fun c8 => ?_)
              refine g_iconst (v := 0) (pc' := 120) C dX4_plan_119 (by decide) rfl ?_
              exact g_iret C hR dX4_plan_120 ⟨by simp [mO8, mK8, th, hn, hcl, c1, c2, c3, c4, c6, c7, c8], by simp [mO8, mK8, th, hn, hcl, c1, c2, c3, c4, c6, c7, c8], rfl⟩
            ·
              have c7 := b2_1.mp c7
              refine g_aload_n (pc' := 72) C dX4_plan_71 rfl rfl ?_
              refine g_iload_n (pc' := 73) C dX4_plan_72 rfl rfl ?_
              refine g_iload_n (pc' := 74) C dX4_plan_73 rfl rfl ?_
              refine k_X4_110 (pc' := 77) C (m_X4_fits hxj hcap (inR_sp (by assumption))) dX4_plan_74 (by first | assumption | exact rfl | exact al13 rfl | exact Nat.le_of_ble_eq_true rfl) ⟨⟨Nat.le_of_ble_eq_true rfl, Nat.le_of_ble_eq_true rfl⟩, rfl, rfl⟩ (Nat.le_of_ble_eq_true rfl) ⟨Nat.zero_le _, Nat.zero_le _⟩ rfl ?_
              refine g_if_eq (tgt := 104) (pc' := 80) C dX4_plan_77 (by decide) rfl (fun c9 => ?_) (fun c9 => ?_)
              ·
                have c9 := b2_0.mp c9
                refine g_iconst (v := 3) (pc' := 105) C dX4_plan_104 (by decide) rfl ?_
                refine g_goto (tgt := 109) C dX4_plan_105 (by decide) ?_
                refine p_X4_71 (pc' := 112) C dX4_plan_109 (by first | assumption | exact rfl | exact al13 rfl | exact Nat.le_of_ble_eq_true rfl) rfl ?_
                refine g_aload_n (pc' := 113) C dX4_plan_112 rfl rfl ?_
                refine f_X4_71 (pc' := 116) C dX4_plan_113 (by first | assumption | exact rfl | exact al13 rfl | exact Nat.le_of_ble_eq_true rfl) rfl ?_
                refine g_if_le (tgt := 121) (pc' := 119) C dX4_plan_116 (by decide) rfl (fun c10 => absurd c10 (by first | decide | rw [thv]; decide)) (fun c10 => ?_)
                refine g_iconst (v := 0) (pc' := 120) C dX4_plan_119 (by decide) rfl ?_
                exact g_iret C hR dX4_plan_120 ⟨by simp [mO8, mK8, th, hn, hcl, c1, c2, c3, c4, c6, c7, c9, c10], by simp [mO8, mK8, th, hn, hcl, c1, c2, c3, c4, c6, c7, c9, c10], rfl⟩
              ·
                have c9 := b2_1.mp c9
                refine g_aload_n (pc' := 81) C dX4_plan_80 rfl rfl ?_
                refine f_X4_82 (pc' := 84) C dX4_plan_81 (by first | assumption | exact rfl | exact al13 rfl | exact Nat.le_of_ble_eq_true rfl) rfl ?_
                refine g_bipush (v := 24) (pc' := 86) C dX4_plan_84 (by decide) rfl ?_
                by_cases hNe : N = 24
                · refine g_icmp_eq (tgt := 104) (pc' := 89) C dX4_plan_86 (by decide) rfl (fun _ => ?_) (fun c => absurd (by rw [hNN, hNe]; rfl) c)
                  refine g_iconst (v := 3) (pc' := 105) C dX4_plan_104 (by decide) rfl ?_
                  refine g_goto (tgt := 109) C dX4_plan_105 (by decide) ?_
                  refine p_X4_71 (pc' := 112) C dX4_plan_109 (by first | assumption | exact rfl | exact al13 rfl | exact Nat.le_of_ble_eq_true rfl) rfl ?_
                  refine g_aload_n (pc' := 113) C dX4_plan_112 rfl rfl ?_
                  refine f_X4_71 (pc' := 116) C dX4_plan_113 (by first | assumption | exact rfl | exact al13 rfl | exact Nat.le_of_ble_eq_true rfl) rfl ?_
                  refine g_if_le (tgt := 121) (pc' := 119) C dX4_plan_116 (by decide) rfl (fun c11 => absurd c11 (by first | decide | rw [thv]; decide)) (fun c11 => ?_)
                  refine g_iconst (v := 0) (pc' := 120) C dX4_plan_119 (by decide) rfl ?_
                  exact g_iret C hR dX4_plan_120 ⟨by simp [mO8, mK8, th, hn, hcl, c1, c2, c3, c4, c6, c7, c9, hNe, c11], by simp [mO8, mK8, th, hn, hcl, c1, c2, c3, c4, c6, c7, c9, hNe, c11], rfl⟩
                · refine g_icmp_eq (tgt := 104) (pc' := 89) C dX4_plan_86 (by decide) rfl (fun c => absurd ((nI_eq (a := N) (b := 24) (by omega) (by decide)).mp (hNN.symm.trans c)) hNe) (fun _ => ?_)
                  refine g_aload_n (pc' := 90) C dX4_plan_89 rfl rfl ?_
                  refine g_iload_n (pc' := 91) C dX4_plan_90 rfl rfl ?_
                  refine g_iload_n (pc' := 92) C dX4_plan_91 rfl rfl ?_
                  refine g_iload_n (pc' := 93) C dX4_plan_92 rfl rfl ?_
                  refine g_iload (pc' := 95) C dX4_plan_93 rfl rfl ?_
                  refine g_iload (pc' := 97) C dX4_plan_95 rfl rfl ?_
                  refine g_iconst (v := (-1)) (pc' := 98) C dX4_plan_97 (by decide) rfl ?_
                  refine k_X4_114 (pc' := 101) C (m_X4_reason X hxj hcap) dX4_plan_98 (by first | assumption | exact rfl | exact al13 rfl | exact Nat.le_of_ble_eq_true rfl) ⟨⟨Nat.le_of_ble_eq_true rfl, Nat.le_of_ble_eq_true rfl⟩, rfl, rfl⟩ (Nat.le_of_ble_eq_true rfl) ⟨Nat.zero_le _, Nat.zero_le _⟩ rfl ?_
                  refine g_if_le (tgt := 108) (pc' := 104) C dX4_plan_101 (by decide) rfl (fun c12 => ?_) (fun c12 => ?_)
                  ·
                    refine g_iconst (v := 0) (pc' := 109) C dX4_plan_108 (by decide) rfl ?_
                    refine p_X4_71 (pc' := 112) C dX4_plan_109 (by first | assumption | exact rfl | exact al13 rfl | exact Nat.le_of_ble_eq_true rfl) rfl ?_
                    refine g_aload_n (pc' := 113) C dX4_plan_112 rfl rfl ?_
                    refine f_X4_71 (pc' := 116) C dX4_plan_113 (by first | assumption | exact rfl | exact al13 rfl | exact Nat.le_of_ble_eq_true rfl) rfl ?_
                    refine g_if_le (tgt := 121) (pc' := 119) C dX4_plan_116 (by decide) rfl (fun c13 => ?_) (fun c13 => absurd (by first | decide | rw [thv]; decide) c13)
                    have hNlt : N < 24 := by omega
                    obtain ⟨f, hf9, hfw, hfa⟩ := inR_fr hnow hnw (by assumption)
                    obtain ⟨k, hk1, hk4, hky⟩ := inR_lo (y := y) (lo := 1) (hi := 4) (by decide) (by decide) (by assumption)
                    refine g_aload_n (pc' := 122) C dX4_plan_121 rfl rfl ?_
                    refine f_X4_82 (pc' := 125) C dX4_plan_122 (by first | assumption | exact rfl | exact al13 rfl | exact Nat.le_of_ble_eq_true rfl) rfl ?_
                    refine g_istore (pc' := 127) C dX4_plan_125 rfl rfl ?_
                    refine g_aload_n (pc' := 128) C dX4_plan_127 rfl rfl ?_
                    refine g_dup (pc' := 129) C dX4_plan_128 rfl rfl ?_
                    refine f_X4_82 (pc' := 132) C dX4_plan_129 (by first | assumption | exact rfl | exact al13 rfl | exact Nat.le_of_ble_eq_true rfl) rfl ?_
                    refine g_iconst (v := 1) (pc' := 133) C dX4_plan_132 (by decide) rfl ?_
                    refine g_iadd (pc' := 134) C dX4_plan_133 rfl ?_
                    refine p_X4_82 (pc' := 137) C dX4_plan_134 (by first | assumption | exact rfl | exact al13 rfl | exact Nat.le_of_ble_eq_true rfl) rfl ?_
                    refine g_aload_n (pc' := 138) C dX4_plan_137 rfl rfl ?_
                    refine f_X4_44 (pc' := 141) C dX4_plan_138 (by first | assumption | exact rfl | exact al13 rfl | exact Nat.le_of_ble_eq_true rfl) rfl ?_
                    refine g_iload (pc' := 143) C dX4_plan_141 rfl rfl ?_
                    refine g_iload_n (pc' := 144) C dX4_plan_143 rfl rfl ?_
                    refine g_iast (pc' := 145) C (N) (by simp only [upI_at]; simpa using hNN) hNlt dX4_plan_144 (by first | assumption | exact rfl | exact al13 rfl | exact Nat.le_of_ble_eq_true rfl) (fun _ => rfl) rfl rfl ?_
                    refine g_aload_n (pc' := 146) C dX4_plan_145 rfl rfl ?_
                    refine f_X4_47 (pc' := 149) C dX4_plan_146 (by first | assumption | exact rfl | exact al13 rfl | exact Nat.le_of_ble_eq_true rfl) rfl ?_
                    refine g_iload (pc' := 151) C dX4_plan_149 rfl rfl ?_
                    refine g_iload_n (pc' := 152) C dX4_plan_151 rfl rfl ?_
                    refine g_iast (pc' := 153) C (N) (by simp only [upI_at]; simpa using hNN) hNlt dX4_plan_152 (by first | assumption | exact rfl | exact al13 rfl | exact Nat.le_of_ble_eq_true rfl) (fun _ => rfl) rfl rfl ?_
                    refine g_aload_n (pc' := 154) C dX4_plan_153 rfl rfl ?_
                    refine f_X4_50 (pc' := 157) C dX4_plan_154 (by first | assumption | exact rfl | exact al13 rfl | exact Nat.le_of_ble_eq_true rfl) rfl ?_
                    refine g_iload (pc' := 159) C dX4_plan_157 rfl rfl ?_
                    refine g_iload_n (pc' := 160) C dX4_plan_159 rfl rfl ?_
                    refine g_iast (pc' := 161) C (N) (by simp only [upI_at]; simpa using hNN) hNlt dX4_plan_160 (by first | assumption | exact rfl | exact al13 rfl | exact Nat.le_of_ble_eq_true rfl) (fun _ => rfl) rfl rfl ?_
                    refine g_aload_n (pc' := 162) C dX4_plan_161 rfl rfl ?_
                    refine f_X4_53 (pc' := 165) C dX4_plan_162 (by first | assumption | exact rfl | exact al13 rfl | exact Nat.le_of_ble_eq_true rfl) rfl ?_
                    refine g_iload (pc' := 167) C dX4_plan_165 rfl rfl ?_
                    refine g_iload (pc' := 169) C dX4_plan_167 rfl rfl ?_
                    refine g_iast (pc' := 170) C (N) (by simp only [upI_at]; simpa using hNN) hNlt dX4_plan_169 (by first | assumption | exact rfl | exact al13 rfl | exact Nat.le_of_ble_eq_true rfl) (fun _ => rfl) rfl rfl ?_
                    refine g_aload_n (pc' := 171) C dX4_plan_170 rfl rfl ?_
                    refine f_X4_56 (pc' := 174) C dX4_plan_171 (by first | assumption | exact rfl | exact al13 rfl | exact Nat.le_of_ble_eq_true rfl) rfl ?_
                    refine g_iload (pc' := 176) C dX4_plan_174 rfl rfl ?_
                    refine g_iload (pc' := 178) C dX4_plan_176 rfl rfl ?_
                    refine g_iast (pc' := 179) C (N) (by simp only [upI_at]; simpa using hNN) hNlt dX4_plan_178 (by first | assumption | exact rfl | exact al13 rfl | exact Nat.le_of_ble_eq_true rfl) (fun _ => rfl) rfl rfl ?_
                    have hb : upI (upI (upI (upI (upI (upI (upI I 12 0 0 0) 12 0 13 (upI I 12 0 0 0 12 0 13 + 1)) 13 15 N x) 13 16 N r) 13 17 N w) 13 18 N a) 13 19 N y = mBase I N x r w a y := by simp [mBase, th, upI_at, hNN, nI_1]
                    have hMI : MI M (N + 1) (mBase I N x r w a y) := by rw [hxj, hfa, hky]; exact X.plan hNlt hj hk4 hf9 (inR_sp (by assumption))
                    rw [hb]
                    refine g_aload_n (pc' := 180) C dX4_plan_179 rfl rfl ?_
                    refine g_iload (pc' := 182) C dX4_plan_180 rfl rfl ?_
                    refine k_X4_118 (pc' := 185) C (m_X4_comes hMI (by simp only [upI_at]; simpa using hNN) (Nat.lt_succ_self N)) dX4_plan_182 (by first | assumption | exact rfl | exact al13 rfl | exact Nat.le_of_ble_eq_true rfl) ⟨⟨Nat.le_of_ble_eq_true rfl, Nat.le_of_ble_eq_true rfl⟩, rfl, rfl⟩ (Nat.le_of_ble_eq_true rfl) ⟨Nat.zero_le _, Nat.zero_le _⟩ rfl ?_
                    refine g_iload (pc' := 187) C dX4_plan_185 rfl rfl ?_
                    exact g_iret C hR dX4_plan_187 ⟨by simp [mO8, mK8, th, upI_at, hNN, hn, hcl, c1, c2, c3, c4, c6, c7, c9, hNe, c12, c13], by simp [mO8, mK8, hn, hcl, c1, c2, c3, c4, c6, c7, c9, hNe, c12, c13], rfl⟩
                  ·
                    refine g_iconst (v := 3) (pc' := 105) C dX4_plan_104 (by decide) rfl ?_
                    refine g_goto (tgt := 109) C dX4_plan_105 (by decide) ?_
                    refine p_X4_71 (pc' := 112) C dX4_plan_109 (by first | assumption | exact rfl | exact al13 rfl | exact Nat.le_of_ble_eq_true rfl) rfl ?_
                    refine g_aload_n (pc' := 113) C dX4_plan_112 rfl rfl ?_
                    refine f_X4_71 (pc' := 116) C dX4_plan_113 (by first | assumption | exact rfl | exact al13 rfl | exact Nat.le_of_ble_eq_true rfl) rfl ?_
                    refine g_if_le (tgt := 121) (pc' := 119) C dX4_plan_116 (by decide) rfl (fun c14 => absurd c14 (by first | decide | rw [thv]; decide)) (fun c14 => ?_)
                    refine g_iconst (v := 0) (pc' := 120) C dX4_plan_119 (by decide) rfl ?_
                    exact g_iret C hR dX4_plan_120 ⟨by simp [mO8, mK8, th, hn, hcl, c1, c2, c3, c4, c6, c7, c9, hNe, c12, c14], by simp [mO8, mK8, th, hn, hcl, c1, c2, c3, c4, c6, c7, c9, hNe, c12, c14], rfl⟩
          ·
            have c6 := b2_0.mp c6
            refine g_iconst (v := 2) (pc' := 60) C dX4_plan_59 (by decide) rfl ?_
            refine g_goto (tgt := 109) C dX4_plan_60 (by decide) ?_
            refine p_X4_71 (pc' := 112) C dX4_plan_109 (by first | assumption | exact rfl | exact al13 rfl | exact Nat.le_of_ble_eq_true rfl) rfl ?_
            refine g_aload_n (pc' := 113) C dX4_plan_112 rfl rfl ?_
            refine f_X4_71 (pc' := 116) C dX4_plan_113 (by first | assumption | exact rfl | exact al13 rfl | exact Nat.le_of_ble_eq_true rfl) rfl ?_
            refine g_if_le (tgt := 121) (pc' := 119) C dX4_plan_116 (by decide) rfl (fun c15 => absurd c15 (by first | decide | rw [thv]; decide)) (fun c15 => ?_)
            refine g_iconst (v := 0) (pc' := 120) C dX4_plan_119 (by decide) rfl ?_
            exact g_iret C hR dX4_plan_120 ⟨by simp [mO8, mK8, th, hn, hcl, c1, c2, c3, c4, c6, c15], by simp [mO8, mK8, th, hn, hcl, c1, c2, c3, c4, c6, c15], rfl⟩
      ·
        have c3 := b2_0.mp c3
        refine g_aload_n (pc' := 25) C dX4_plan_24 rfl rfl ?_
        refine g_iconst (v := 1) (pc' := 26) C dX4_plan_25 (by decide) rfl ?_
        refine p_X4_71 (pc' := 29) C dX4_plan_26 (by first | assumption | exact rfl | exact al13 rfl | exact Nat.le_of_ble_eq_true rfl) rfl ?_
        refine g_iconst (v := 0) (pc' := 30) C dX4_plan_29 (by decide) rfl ?_
        exact g_iret C hR dX4_plan_30 ⟨by simp [mO8, mK8, th, hn, hcl, c1, c2, c3], by simp [mO8, mK8, th, hn, hcl, c1, c2, c3], rfl⟩
  · have hn : oM x M = true := oM_T hx
    refine k_X4_88 (pc' := 5) C (m_X4_isMatterN X hx) dX4_plan_2 (by first | assumption | exact rfl | exact al13 rfl | exact Nat.le_of_ble_eq_true rfl) ⟨⟨Nat.le_of_ble_eq_true rfl, Nat.le_of_ble_eq_true rfl⟩, rfl, rfl⟩ (Nat.le_of_ble_eq_true rfl) ⟨Nat.zero_le _, Nat.zero_le _⟩ rfl ?_
    refine g_if_eq (tgt := 24) (pc' := 8) C dX4_plan_5 (by decide) rfl (fun c16 => ?_) (fun c16 => absurd (by first | decide | rw [thv]; decide) c16)
    refine g_aload_n (pc' := 25) C dX4_plan_24 rfl rfl ?_
    refine g_iconst (v := 1) (pc' := 26) C dX4_plan_25 (by decide) rfl ?_
    refine p_X4_71 (pc' := 29) C dX4_plan_26 (by first | assumption | exact rfl | exact al13 rfl | exact Nat.le_of_ble_eq_true rfl) rfl ?_
    refine g_iconst (v := 0) (pc' := 30) C dX4_plan_29 (by decide) rfl ?_
    exact g_iret C hR dX4_plan_30 ⟨by simp [mO8, mK8, th, hn, c16], by simp [mO8, mK8, th, hn, c16], rfl⟩
set_option maxRecDepth 20000 in
theorem m_X4_move {l : Launch} {g : wG} {z : wZ} {I : wI} {P : wP} {O : wO} {M N nw : Nat} {x r w a : Int32} (X : MI M N I) (hnow : I 12 0 1 = nI nw) (hnw : nw ≤ 1000) : RT l yX4_move cX4_move 6 ((some .int)) { frames := 3, cells := 0, slots := 0, locals := 81 } g z [.ref (g.2.2 12 0), .int x, .int r, .int w, .int a] I P O (dp (some (.int (mO9 I N x r w a).2)) ((mO9 I N x r w a).1) (P)) := by
  refine RT.of (own := RX4) rfl (by decide +kernel) (Nat.le_of_ble_eq_true rfl) rfl (fun K C hl hg hR => ?_)
  subst hl
  subst hg
  refine g_aload_n (pc' := 1) C dX4_move_0 rfl rfl ?_
  refine g_iload_n (pc' := 2) C dX4_move_1 rfl rfl ?_
  rcases in_of x N (by have := X.1; have := X.2.1; omega) with ⟨j, hj, hxj⟩ | hx
  · have hn : oM x N = false := oM_F hj hxj (by have := X.1; have := X.2.1; omega)
    have hcl : x.toNatClampNeg = j := by rw [hxj]; exact nI_clamp (by have := X.1; have := X.2.1; omega)
    have hcap : j < 24 := by have := X.1; have := X.2.1; omega
    refine k_X4_121 (pc' := 5) C (m_X4_isHearingS X hxj hj) dX4_move_2 (by first | assumption | exact rfl | exact al13 rfl | exact Nat.le_of_ble_eq_true rfl) ⟨⟨Nat.le_of_ble_eq_true rfl, Nat.le_of_ble_eq_true rfl⟩, rfl, rfl⟩ (Nat.le_of_ble_eq_true rfl) ⟨Nat.zero_le _, Nat.zero_le _⟩ rfl ?_
    refine g_if_eq (tgt := 24) (pc' := 8) C dX4_move_5 (by decide) rfl (fun c1 => absurd c1 (by first | decide | rw [thv]; decide)) (fun c1 => ?_)
    refine g_iload_n (pc' := 9) C dX4_move_8 rfl rfl ?_
    refine g_iconst (v := 0) (pc' := 10) C dX4_move_9 (by decide) rfl ?_
    refine g_iconst (v := 3) (pc' := 11) C dX4_move_10 (by decide) rfl ?_
    refine k_X4_78 (pc' := 14) C (m_X4_in) dX4_move_11 ⟨⟨Nat.le_of_ble_eq_true rfl, Nat.le_of_ble_eq_true rfl⟩, rfl, rfl⟩ (Nat.le_of_ble_eq_true rfl) ⟨Nat.zero_le _, Nat.zero_le _⟩ rfl ?_
    refine g_if_eq (tgt := 24) (pc' := 17) C dX4_move_14 (by decide) rfl (fun c2 => ?_) (fun c2 => ?_)
    ·
      have c2 := b2_0.mp c2
      refine g_aload_n (pc' := 25) C dX4_move_24 rfl rfl ?_
      refine g_iconst (v := 1) (pc' := 26) C dX4_move_25 (by decide) rfl ?_
      refine p_X4_71 (pc' := 29) C dX4_move_26 (by first | assumption | exact rfl | exact al13 rfl | exact Nat.le_of_ble_eq_true rfl) rfl ?_
      refine g_iconst (v := 0) (pc' := 30) C dX4_move_29 (by decide) rfl ?_
      exact g_iret C hR dX4_move_30 ⟨by simp [mO9, mK9, th, hn, hcl, c1, c2], by simp [mO9, mK9, th, hn, hcl, c1, c2], rfl⟩
    ·
      have c2 := b2_1.mp c2
      refine g_iload_n (pc' := 18) C dX4_move_17 rfl rfl ?_
      refine k_X4_104 (pc' := 21) C (m_X4_isSpeaker) dX4_move_18 ⟨⟨Nat.le_of_ble_eq_true rfl, Nat.le_of_ble_eq_true rfl⟩, rfl, rfl⟩ (Nat.le_of_ble_eq_true rfl) ⟨Nat.zero_le _, Nat.zero_le _⟩ rfl ?_
      refine g_if_ne (tgt := 31) (pc' := 24) C dX4_move_21 (by decide) rfl (fun c3 => ?_) (fun c3 => ?_)
      ·
        have c3 := b2_1.mp c3
        refine g_aload_n (pc' := 32) C dX4_move_31 rfl rfl ?_
        refine f_X4_44 (pc' := 35) C dX4_move_32 (by first | assumption | exact rfl | exact al13 rfl | exact Nat.le_of_ble_eq_true rfl) rfl ?_
        refine g_iload_n (pc' := 36) C dX4_move_35 rfl rfl ?_
        refine g_iald (pc' := 37) C (j) hxj hcap dX4_move_36 (by first | assumption | exact rfl | exact al13 rfl | exact Nat.le_of_ble_eq_true rfl) rfl rfl rfl ?_
        refine g_istore (pc' := 39) C dX4_move_37 rfl rfl ?_
        refine g_aload_n (pc' := 40) C dX4_move_39 rfl rfl ?_
        refine g_iload (pc' := 42) C dX4_move_40 rfl rfl ?_
        refine g_aload_n (pc' := 43) C dX4_move_42 rfl rfl ?_
        refine f_X4_85 (pc' := 46) C dX4_move_43 (by first | assumption | exact rfl | exact al13 rfl | exact Nat.le_of_ble_eq_true rfl) rfl ?_
        refine g_iconst (v := 1) (pc' := 47) C dX4_move_46 (by decide) rfl ?_
        refine g_iadd (pc' := 48) C dX4_move_47 rfl ?_
        refine g_sipush (v := 999) (pc' := 51) C dX4_move_48 (by decide) rfl ?_
        refine k_X4_78 (pc' := 54) C (m_X4_in) dX4_move_51 ⟨⟨Nat.le_of_ble_eq_true rfl, Nat.le_of_ble_eq_true rfl⟩, rfl, rfl⟩ (Nat.le_of_ble_eq_true rfl) ⟨Nat.zero_le _, Nat.zero_le _⟩ rfl ?_
        refine g_if_ne (tgt := 61) (pc' := 57) C dX4_move_54 (by decide) rfl (fun c4 => ?_) (fun c4 => ?_)
        ·
          have c4 := b2_1.mp c4
          refine g_aload_n (pc' := 62) C dX4_move_61 rfl rfl ?_
          refine f_X4_41 (pc' := 65) C dX4_move_62 (by first | assumption | exact rfl | exact al13 rfl | exact Nat.le_of_ble_eq_true rfl) rfl ?_
          refine g_iload_n (pc' := 66) C dX4_move_65 rfl rfl ?_
          refine g_iald (pc' := 67) C (j) hxj hcap dX4_move_66 (by first | assumption | exact rfl | exact al13 rfl | exact Nat.le_of_ble_eq_true rfl) rfl rfl rfl ?_
          refine g_if_ne (tgt := 113) (pc' := 70) C dX4_move_67 (by decide) rfl (fun c5 => ?_) (fun c5 => ?_)
          ·
            refine g_iconst (v := 3) (pc' := 114) C dX4_move_113 (by decide) rfl ?_
            refine g_goto (tgt := 118) C dX4_move_114 (by decide) ?_
            refine p_X4_71 (pc' := 121) C dX4_move_118 (by first | assumption | exact rfl | exact al13 rfl | exact Nat.le_of_ble_eq_true rfl) rfl ?_
            refine g_aload_n (pc' := 122) C dX4_move_121 rfl rfl ?_
            refine f_X4_71 (pc' := 125) C dX4_move_122 (by first | assumption | exact rfl | exact al13 rfl | exact Nat.le_of_ble_eq_true rfl) rfl ?_
            refine g_if_le (tgt := 130) (pc' := 128) C dX4_move_125 (by decide) rfl (fun c6 => absurd c6 (by first | decide | rw [thv]; decide)) (fun c6 => ?_)
            refine g_iconst (v := 0) (pc' := 129) C dX4_move_128 (by decide) rfl ?_
            exact g_iret C hR dX4_move_129 ⟨by simp [mO9, mK9, th, hn, hcl, c1, c2, c3, c4, c5, c6], by simp [mO9, mK9, th, hn, hcl, c1, c2, c3, c4, c5, c6], rfl⟩
          ·
            refine g_aload_n (pc' := 71) C dX4_move_70 rfl rfl ?_
            refine f_X4_53 (pc' := 74) C dX4_move_71 (by first | assumption | exact rfl | exact al13 rfl | exact Nat.le_of_ble_eq_true rfl) rfl ?_
            refine g_iload_n (pc' := 75) C dX4_move_74 rfl rfl ?_
            refine g_iald (pc' := 76) C (j) hxj hcap dX4_move_75 (by first | assumption | exact rfl | exact al13 rfl | exact Nat.le_of_ble_eq_true rfl) rfl rfl rfl ?_
            refine g_aload_n (pc' := 77) C dX4_move_76 rfl rfl ?_
            refine f_X4_85 (pc' := 80) C dX4_move_77 (by first | assumption | exact rfl | exact al13 rfl | exact Nat.le_of_ble_eq_true rfl) rfl ?_
            refine g_icmp_le (tgt := 113) (pc' := 83) C dX4_move_80 (by decide) rfl (fun c7 => ?_) (fun c7 => ?_)
            ·
              refine g_iconst (v := 3) (pc' := 114) C dX4_move_113 (by decide) rfl ?_
              refine g_goto (tgt := 118) C dX4_move_114 (by decide) ?_
              refine p_X4_71 (pc' := 121) C dX4_move_118 (by first | assumption | exact rfl | exact al13 rfl | exact Nat.le_of_ble_eq_true rfl) rfl ?_
              refine g_aload_n (pc' := 122) C dX4_move_121 rfl rfl ?_
              refine f_X4_71 (pc' := 125) C dX4_move_122 (by first | assumption | exact rfl | exact al13 rfl | exact Nat.le_of_ble_eq_true rfl) rfl ?_
              refine g_if_le (tgt := 130) (pc' := 128) C dX4_move_125 (by decide) rfl (fun c8 => absurd c8 (by first | decide | rw [thv]; decide)) (fun c8 => ?_)
              refine g_iconst (v := 0) (pc' := 129) C dX4_move_128 (by decide) rfl ?_
              exact g_iret C hR dX4_move_129 ⟨by simp [mO9, mK9, th, hn, hcl, c1, c2, c3, c4, c5, c7, c8], by simp [mO9, mK9, th, hn, hcl, c1, c2, c3, c4, c5, c7, c8], rfl⟩
            ·
              refine g_aload_n (pc' := 84) C dX4_move_83 rfl rfl ?_
              refine g_iload (pc' := 86) C dX4_move_84 rfl rfl ?_
              refine g_iload_n (pc' := 87) C dX4_move_86 rfl rfl ?_
              refine k_X4_110 (pc' := 90) C (m_X4_fits (X.mt hj) (X.mt2 hj) (inR_sp (by assumption))) dX4_move_87 (by first | assumption | exact rfl | exact al13 rfl | exact Nat.le_of_ble_eq_true rfl) ⟨⟨Nat.le_of_ble_eq_true rfl, Nat.le_of_ble_eq_true rfl⟩, rfl, rfl⟩ (Nat.le_of_ble_eq_true rfl) ⟨Nat.zero_le _, Nat.zero_le _⟩ rfl ?_
              refine g_if_eq (tgt := 113) (pc' := 93) C dX4_move_90 (by decide) rfl (fun c9 => ?_) (fun c9 => ?_)
              ·
                have c9 := b2_0.mp c9
                refine g_iconst (v := 3) (pc' := 114) C dX4_move_113 (by decide) rfl ?_
                refine g_goto (tgt := 118) C dX4_move_114 (by decide) ?_
                refine p_X4_71 (pc' := 121) C dX4_move_118 (by first | assumption | exact rfl | exact al13 rfl | exact Nat.le_of_ble_eq_true rfl) rfl ?_
                refine g_aload_n (pc' := 122) C dX4_move_121 rfl rfl ?_
                refine f_X4_71 (pc' := 125) C dX4_move_122 (by first | assumption | exact rfl | exact al13 rfl | exact Nat.le_of_ble_eq_true rfl) rfl ?_
                refine g_if_le (tgt := 130) (pc' := 128) C dX4_move_125 (by decide) rfl (fun c10 => absurd c10 (by first | decide | rw [thv]; decide)) (fun c10 => ?_)
                refine g_iconst (v := 0) (pc' := 129) C dX4_move_128 (by decide) rfl ?_
                exact g_iret C hR dX4_move_129 ⟨by simp [mO9, mK9, th, hn, hcl, c1, c2, c3, c4, c5, c7, c9, c10], by simp [mO9, mK9, th, hn, hcl, c1, c2, c3, c4, c5, c7, c9, c10], rfl⟩
              ·
                have c9 := b2_1.mp c9
                refine g_aload_n (pc' := 94) C dX4_move_93 rfl rfl ?_
                refine g_iload (pc' := 96) C dX4_move_94 rfl rfl ?_
                refine g_iload_n (pc' := 97) C dX4_move_96 rfl rfl ?_
                refine g_iload_n (pc' := 98) C dX4_move_97 rfl rfl ?_
                refine g_iload (pc' := 100) C dX4_move_98 rfl rfl ?_
                refine g_aload_n (pc' := 101) C dX4_move_100 rfl rfl ?_
                refine f_X4_56 (pc' := 104) C dX4_move_101 (by first | assumption | exact rfl | exact al13 rfl | exact Nat.le_of_ble_eq_true rfl) rfl ?_
                refine g_iload_n (pc' := 105) C dX4_move_104 rfl rfl ?_
                refine g_iald (pc' := 106) C (j) hxj hcap dX4_move_105 (by first | assumption | exact rfl | exact al13 rfl | exact Nat.le_of_ble_eq_true rfl) rfl rfl rfl ?_
                refine g_iload_n (pc' := 107) C dX4_move_106 rfl rfl ?_
                refine k_X4_114 (pc' := 110) C (m_X4_reason X (X.mt hj) (X.mt2 hj)) dX4_move_107 (by first | assumption | exact rfl | exact al13 rfl | exact Nat.le_of_ble_eq_true rfl) ⟨⟨Nat.le_of_ble_eq_true rfl, Nat.le_of_ble_eq_true rfl⟩, rfl, rfl⟩ (Nat.le_of_ble_eq_true rfl) ⟨Nat.zero_le _, Nat.zero_le _⟩ rfl ?_
                refine g_if_le (tgt := 117) (pc' := 113) C dX4_move_110 (by decide) rfl (fun c11 => ?_) (fun c11 => ?_)
                ·
                  refine g_iconst (v := 0) (pc' := 118) C dX4_move_117 (by decide) rfl ?_
                  refine p_X4_71 (pc' := 121) C dX4_move_118 (by first | assumption | exact rfl | exact al13 rfl | exact Nat.le_of_ble_eq_true rfl) rfl ?_
                  refine g_aload_n (pc' := 122) C dX4_move_121 rfl rfl ?_
                  refine f_X4_71 (pc' := 125) C dX4_move_122 (by first | assumption | exact rfl | exact al13 rfl | exact Nat.le_of_ble_eq_true rfl) rfl ?_
                  refine g_if_le (tgt := 130) (pc' := 128) C dX4_move_125 (by decide) rfl (fun c12 => ?_) (fun c12 => absurd (by first | decide | rw [thv]; decide) c12)
                  obtain ⟨f, hf9, hfw, hfa⟩ := inR_fr hnow hnw (by assumption)
                  refine g_aload_n (pc' := 131) C dX4_move_130 rfl rfl ?_
                  refine g_iload_n (pc' := 132) C dX4_move_131 rfl rfl ?_
                  refine k_X4_92 (pc' := 135) C (m_X4_leaves X.th hxj hj) dX4_move_132 (by first | assumption | exact rfl | exact al13 rfl | exact Nat.le_of_ble_eq_true rfl) ⟨⟨Nat.le_of_ble_eq_true rfl, Nat.le_of_ble_eq_true rfl⟩, rfl, rfl⟩ (Nat.le_of_ble_eq_true rfl) ⟨Nat.zero_le _, Nat.zero_le _⟩ rfl ?_
                  refine g_aload_n (pc' := 136) C dX4_move_135 rfl rfl ?_
                  refine f_X4_47 (pc' := 139) C dX4_move_136 (by first | assumption | exact rfl | exact al13 rfl | exact Nat.le_of_ble_eq_true rfl) rfl ?_
                  refine g_iload_n (pc' := 140) C dX4_move_139 rfl rfl ?_
                  refine g_iload_n (pc' := 141) C dX4_move_140 rfl rfl ?_
                  refine g_iast (pc' := 142) C (j) hxj hcap dX4_move_141 (by first | assumption | exact rfl | exact al13 rfl | exact Nat.le_of_ble_eq_true rfl) (fun _ => rfl) rfl rfl ?_
                  refine g_aload_n (pc' := 143) C dX4_move_142 rfl rfl ?_
                  refine f_X4_50 (pc' := 146) C dX4_move_143 (by first | assumption | exact rfl | exact al13 rfl | exact Nat.le_of_ble_eq_true rfl) rfl ?_
                  refine g_iload_n (pc' := 147) C dX4_move_146 rfl rfl ?_
                  refine g_iload_n (pc' := 148) C dX4_move_147 rfl rfl ?_
                  refine g_iast (pc' := 149) C (j) hxj hcap dX4_move_148 (by first | assumption | exact rfl | exact al13 rfl | exact Nat.le_of_ble_eq_true rfl) (fun _ => rfl) rfl rfl ?_
                  refine g_aload_n (pc' := 150) C dX4_move_149 rfl rfl ?_
                  refine f_X4_53 (pc' := 153) C dX4_move_150 (by first | assumption | exact rfl | exact al13 rfl | exact Nat.le_of_ble_eq_true rfl) rfl ?_
                  refine g_iload_n (pc' := 154) C dX4_move_153 rfl rfl ?_
                  refine g_iload (pc' := 156) C dX4_move_154 rfl rfl ?_
                  refine g_iast (pc' := 157) C (j) hxj hcap dX4_move_156 (by first | assumption | exact rfl | exact al13 rfl | exact Nat.le_of_ble_eq_true rfl) (fun _ => rfl) rfl rfl ?_
                  refine g_aload_n (pc' := 158) C dX4_move_157 rfl rfl ?_
                  refine f_X4_59 (pc' := 161) C dX4_move_158 (by first | assumption | exact rfl | exact al13 rfl | exact Nat.le_of_ble_eq_true rfl) rfl ?_
                  refine g_iload_n (pc' := 162) C dX4_move_161 rfl rfl ?_
                  refine g_iconst (v := 0) (pc' := 163) C dX4_move_162 (by decide) rfl ?_
                  refine g_iast (pc' := 164) C (j) hxj hcap dX4_move_163 (by first | assumption | exact rfl | exact al13 rfl | exact Nat.le_of_ble_eq_true rfl) (fun _ => rfl) rfl rfl ?_
                  have hMI : MI M N (mMv (mLv j (th I 0)) j r w a) := by rw [hfa]; exact (X.th.lv' hj).mv hf9 (inR_sp (by assumption))
                  refine g_aload_n (pc' := 165) C dX4_move_164 rfl rfl ?_
                  refine g_iload_n (pc' := 166) C dX4_move_165 rfl rfl ?_
                  refine k_X4_118 (pc' := 169) C (m_X4_comes hMI hxj hj) dX4_move_166 (by first | assumption | exact rfl | exact al13 rfl | exact Nat.le_of_ble_eq_true rfl) ⟨⟨Nat.le_of_ble_eq_true rfl, Nat.le_of_ble_eq_true rfl⟩, rfl, rfl⟩ (Nat.le_of_ble_eq_true rfl) ⟨Nat.zero_le _, Nat.zero_le _⟩ rfl ?_
                  refine g_aload_n (pc' := 170) C dX4_move_169 rfl rfl ?_
                  refine f_X4_35 (pc' := 173) C dX4_move_170 (by first | assumption | exact rfl | exact al13 rfl | exact Nat.le_of_ble_eq_true rfl) rfl ?_
                  refine g_iload (pc' := 175) C dX4_move_173 rfl rfl ?_
                  refine g_iald (pc' := 176) C (mm I j) (X.mt hj) (X.mt2 hj) dX4_move_175 (by first | assumption | exact rfl | exact al13 rfl | exact Nat.le_of_ble_eq_true rfl) rfl rfl rfl ?_
                  exact g_iret C hR dX4_move_176 ⟨by simp [mO9, mK9, mB9, mMv, th, hn, hcl, c1, c2, c3, c4, c5, c7, c9, c11, c12], by simp [mO9, mK9, mB9, mMv, th, hn, hcl, c1, c2, c3, c4, c5, c7, c9, c11, c12], rfl⟩
                ·
                  refine g_iconst (v := 3) (pc' := 114) C dX4_move_113 (by decide) rfl ?_
                  refine g_goto (tgt := 118) C dX4_move_114 (by decide) ?_
                  refine p_X4_71 (pc' := 121) C dX4_move_118 (by first | assumption | exact rfl | exact al13 rfl | exact Nat.le_of_ble_eq_true rfl) rfl ?_
                  refine g_aload_n (pc' := 122) C dX4_move_121 rfl rfl ?_
                  refine f_X4_71 (pc' := 125) C dX4_move_122 (by first | assumption | exact rfl | exact al13 rfl | exact Nat.le_of_ble_eq_true rfl) rfl ?_
                  refine g_if_le (tgt := 130) (pc' := 128) C dX4_move_125 (by decide) rfl (fun c13 => absurd c13 (by first | decide | rw [thv]; decide)) (fun c13 => ?_)
                  refine g_iconst (v := 0) (pc' := 129) C dX4_move_128 (by decide) rfl ?_
                  exact g_iret C hR dX4_move_129 ⟨by simp [mO9, mK9, th, hn, hcl, c1, c2, c3, c4, c5, c7, c9, c11, c13], by simp [mO9, mK9, th, hn, hcl, c1, c2, c3, c4, c5, c7, c9, c11, c13], rfl⟩
        ·
          have c4 := b2_0.mp c4
          refine g_iconst (v := 2) (pc' := 58) C dX4_move_57 (by decide) rfl ?_
          refine g_goto (tgt := 118) C dX4_move_58 (by decide) ?_
          refine p_X4_71 (pc' := 121) C dX4_move_118 (by first | assumption | exact rfl | exact al13 rfl | exact Nat.le_of_ble_eq_true rfl) rfl ?_
          refine g_aload_n (pc' := 122) C dX4_move_121 rfl rfl ?_
          refine f_X4_71 (pc' := 125) C dX4_move_122 (by first | assumption | exact rfl | exact al13 rfl | exact Nat.le_of_ble_eq_true rfl) rfl ?_
          refine g_if_le (tgt := 130) (pc' := 128) C dX4_move_125 (by decide) rfl (fun c14 => absurd c14 (by first | decide | rw [thv]; decide)) (fun c14 => ?_)
          refine g_iconst (v := 0) (pc' := 129) C dX4_move_128 (by decide) rfl ?_
          exact g_iret C hR dX4_move_129 ⟨by simp [mO9, mK9, th, hn, hcl, c1, c2, c3, c4, c14], by simp [mO9, mK9, th, hn, hcl, c1, c2, c3, c4, c14], rfl⟩
      ·
        have c3 := b2_0.mp c3
        refine g_aload_n (pc' := 25) C dX4_move_24 rfl rfl ?_
        refine g_iconst (v := 1) (pc' := 26) C dX4_move_25 (by decide) rfl ?_
        refine p_X4_71 (pc' := 29) C dX4_move_26 (by first | assumption | exact rfl | exact al13 rfl | exact Nat.le_of_ble_eq_true rfl) rfl ?_
        refine g_iconst (v := 0) (pc' := 30) C dX4_move_29 (by decide) rfl ?_
        exact g_iret C hR dX4_move_30 ⟨by simp [mO9, mK9, th, hn, hcl, c1, c2, c3], by simp [mO9, mK9, th, hn, hcl, c1, c2, c3], rfl⟩
  · have hn : oM x N = true := oM_T hx
    refine k_X4_121 (pc' := 5) C (m_X4_isHearingN X hx) dX4_move_2 (by first | assumption | exact rfl | exact al13 rfl | exact Nat.le_of_ble_eq_true rfl) ⟨⟨Nat.le_of_ble_eq_true rfl, Nat.le_of_ble_eq_true rfl⟩, rfl, rfl⟩ (Nat.le_of_ble_eq_true rfl) ⟨Nat.zero_le _, Nat.zero_le _⟩ rfl ?_
    refine g_if_eq (tgt := 24) (pc' := 8) C dX4_move_5 (by decide) rfl (fun c15 => ?_) (fun c15 => absurd (by first | decide | rw [thv]; decide) c15)
    refine g_aload_n (pc' := 25) C dX4_move_24 rfl rfl ?_
    refine g_iconst (v := 1) (pc' := 26) C dX4_move_25 (by decide) rfl ?_
    refine p_X4_71 (pc' := 29) C dX4_move_26 (by first | assumption | exact rfl | exact al13 rfl | exact Nat.le_of_ble_eq_true rfl) rfl ?_
    refine g_iconst (v := 0) (pc' := 30) C dX4_move_29 (by decide) rfl ?_
    exact g_iret C hR dX4_move_30 ⟨by simp [mO9, mK9, th, hn, c15], by simp [mO9, mK9, th, hn, c15], rfl⟩
set_option maxRecDepth 20000 in
theorem m_X4_drop {l : Launch} {g : wG} {z : wZ} {I : wI} {P : wP} {O : wO} {M N : Nat} {x : Int32} (X : MI M N I) : RT l yX4_drop cX4_drop 2 ((some .int)) { frames := 2, cells := 0, slots := 0, locals := 43 } g z [.ref (g.2.2 12 0), .int x] I P O (dp (some (.int (mO10 I N x).2)) ((mO10 I N x).1) (P)) := by
  refine RT.of (own := RX4) rfl (by decide +kernel) (Nat.le_of_ble_eq_true rfl) rfl (fun K C hl hg hR => ?_)
  subst hl
  subst hg
  refine g_aload_n (pc' := 1) C dX4_drop_0 rfl rfl ?_
  refine g_aload_n (pc' := 2) C dX4_drop_1 rfl rfl ?_
  refine g_iload_n (pc' := 3) C dX4_drop_2 rfl rfl ?_
  rcases in_of x N (by have := X.1; have := X.2.1; omega) with ⟨j, hj, hxj⟩ | hx
  · have hn : oM x N = false := oM_F hj hxj (by have := X.1; have := X.2.1; omega)
    have hcl : x.toNatClampNeg = j := by rw [hxj]; exact nI_clamp (by have := X.1; have := X.2.1; omega)
    have hcap : j < 24 := by have := X.1; have := X.2.1; omega
    refine k_X4_121 (pc' := 6) C (m_X4_isHearingS X hxj hj) dX4_drop_3 (by first | assumption | exact rfl | exact al13 rfl | exact Nat.le_of_ble_eq_true rfl) ⟨⟨Nat.le_of_ble_eq_true rfl, Nat.le_of_ble_eq_true rfl⟩, rfl, rfl⟩ (Nat.le_of_ble_eq_true rfl) ⟨Nat.zero_le _, Nat.zero_le _⟩ rfl ?_
    refine g_if_ne (tgt := 13) (pc' := 9) C dX4_drop_6 (by decide) rfl (fun c1 => ?_) (fun c1 => absurd c1 (by first | decide | rw [thv]; decide))
    refine g_aload_n (pc' := 14) C dX4_drop_13 rfl rfl ?_
    refine f_X4_41 (pc' := 17) C dX4_drop_14 (by first | assumption | exact rfl | exact al13 rfl | exact Nat.le_of_ble_eq_true rfl) rfl ?_
    refine g_iload_n (pc' := 18) C dX4_drop_17 rfl rfl ?_
    refine g_iald (pc' := 19) C (j) hxj hcap dX4_drop_18 (by first | assumption | exact rfl | exact al13 rfl | exact Nat.le_of_ble_eq_true rfl) rfl rfl rfl ?_
    refine g_if_ne (tgt := 35) (pc' := 22) C dX4_drop_19 (by decide) rfl (fun c2 => ?_) (fun c2 => ?_)
    ·
      refine g_iconst (v := 2) (pc' := 36) C dX4_drop_35 (by decide) rfl ?_
      refine g_goto (tgt := 40) C dX4_drop_36 (by decide) ?_
      refine p_X4_71 (pc' := 43) C dX4_drop_40 (by first | assumption | exact rfl | exact al13 rfl | exact Nat.le_of_ble_eq_true rfl) rfl ?_
      refine g_aload_n (pc' := 44) C dX4_drop_43 rfl rfl ?_
      refine f_X4_71 (pc' := 47) C dX4_drop_44 (by first | assumption | exact rfl | exact al13 rfl | exact Nat.le_of_ble_eq_true rfl) rfl ?_
      refine g_if_le (tgt := 52) (pc' := 50) C dX4_drop_47 (by decide) rfl (fun c3 => absurd c3 (by first | decide | rw [thv]; decide)) (fun c3 => ?_)
      refine g_iconst (v := 0) (pc' := 51) C dX4_drop_50 (by decide) rfl ?_
      exact g_iret C hR dX4_drop_51 ⟨by simp [mO10, mK10, th, hn, hcl, c1, c2, c3], by simp [mO10, mK10, th, hn, hcl, c1, c2, c3], rfl⟩
    ·
      refine g_aload_n (pc' := 23) C dX4_drop_22 rfl rfl ?_
      refine f_X4_53 (pc' := 26) C dX4_drop_23 (by first | assumption | exact rfl | exact al13 rfl | exact Nat.le_of_ble_eq_true rfl) rfl ?_
      refine g_iload_n (pc' := 27) C dX4_drop_26 rfl rfl ?_
      refine g_iald (pc' := 28) C (j) hxj hcap dX4_drop_27 (by first | assumption | exact rfl | exact al13 rfl | exact Nat.le_of_ble_eq_true rfl) rfl rfl rfl ?_
      refine g_aload_n (pc' := 29) C dX4_drop_28 rfl rfl ?_
      refine f_X4_85 (pc' := 32) C dX4_drop_29 (by first | assumption | exact rfl | exact al13 rfl | exact Nat.le_of_ble_eq_true rfl) rfl ?_
      refine g_icmp_gt (tgt := 39) (pc' := 35) C dX4_drop_32 (by decide) rfl (fun c4 => ?_) (fun c4 => ?_)
      ·
        refine g_iconst (v := 0) (pc' := 40) C dX4_drop_39 (by decide) rfl ?_
        refine p_X4_71 (pc' := 43) C dX4_drop_40 (by first | assumption | exact rfl | exact al13 rfl | exact Nat.le_of_ble_eq_true rfl) rfl ?_
        refine g_aload_n (pc' := 44) C dX4_drop_43 rfl rfl ?_
        refine f_X4_71 (pc' := 47) C dX4_drop_44 (by first | assumption | exact rfl | exact al13 rfl | exact Nat.le_of_ble_eq_true rfl) rfl ?_
        refine g_if_le (tgt := 52) (pc' := 50) C dX4_drop_47 (by decide) rfl (fun c5 => ?_) (fun c5 => absurd (by first | decide | rw [thv]; decide) c5)
        refine g_aload_n (pc' := 53) C dX4_drop_52 rfl rfl ?_
        refine g_iload_n (pc' := 54) C dX4_drop_53 rfl rfl ?_
        refine k_X4_92 (pc' := 57) C (m_X4_leaves X.th hxj hj) dX4_drop_54 (by first | assumption | exact rfl | exact al13 rfl | exact Nat.le_of_ble_eq_true rfl) ⟨⟨Nat.le_of_ble_eq_true rfl, Nat.le_of_ble_eq_true rfl⟩, rfl, rfl⟩ (Nat.le_of_ble_eq_true rfl) ⟨Nat.zero_le _, Nat.zero_le _⟩ rfl ?_
        refine g_aload_n (pc' := 58) C dX4_drop_57 rfl rfl ?_
        refine f_X4_41 (pc' := 61) C dX4_drop_58 (by first | assumption | exact rfl | exact al13 rfl | exact Nat.le_of_ble_eq_true rfl) rfl ?_
        refine g_iload_n (pc' := 62) C dX4_drop_61 rfl rfl ?_
        refine g_iconst (v := 3) (pc' := 63) C dX4_drop_62 (by decide) rfl ?_
        refine g_iast (pc' := 64) C (j) hxj hcap dX4_drop_63 (by first | assumption | exact rfl | exact al13 rfl | exact Nat.le_of_ble_eq_true rfl) (fun _ => rfl) rfl rfl ?_
        have X2 : MI M N (upI (mLv j (th I 0)) 13 14 j 3) := (X.th.lv' hj).up _ (by omega)
        refine g_aload_n (pc' := 65) C dX4_drop_64 rfl rfl ?_
        refine f_X4_35 (pc' := 68) C dX4_drop_65 (by first | assumption | exact rfl | exact al13 rfl | exact Nat.le_of_ble_eq_true rfl) rfl ?_
        refine g_aload_n (pc' := 69) C dX4_drop_68 rfl rfl ?_
        refine f_X4_44 (pc' := 72) C dX4_drop_69 (by first | assumption | exact rfl | exact al13 rfl | exact Nat.le_of_ble_eq_true rfl) rfl ?_
        refine g_iload_n (pc' := 73) C dX4_drop_72 rfl rfl ?_
        refine g_iald (pc' := 74) C (j) hxj hcap dX4_drop_73 (by first | assumption | exact rfl | exact al13 rfl | exact Nat.le_of_ble_eq_true rfl) rfl rfl rfl ?_
        refine g_iald (pc' := 75) C (mm (upI (mLv j (th I 0)) 13 14 j 3) j) (X2.mt hj) (X2.mt2 hj) dX4_drop_74 (by first | assumption | exact rfl | exact al13 rfl | exact Nat.le_of_ble_eq_true rfl) rfl rfl rfl ?_
        exact g_iret C hR dX4_drop_75 ⟨by simp [mO10, mK10, mB10, th, hn, hcl, c1, c2, c4, c5], by simp [mO10, mK10, mB10, th, hn, hcl, c1, c2, c4, c5], rfl⟩
      ·
        refine g_iconst (v := 2) (pc' := 36) C dX4_drop_35 (by decide) rfl ?_
        refine g_goto (tgt := 40) C dX4_drop_36 (by decide) ?_
        refine p_X4_71 (pc' := 43) C dX4_drop_40 (by first | assumption | exact rfl | exact al13 rfl | exact Nat.le_of_ble_eq_true rfl) rfl ?_
        refine g_aload_n (pc' := 44) C dX4_drop_43 rfl rfl ?_
        refine f_X4_71 (pc' := 47) C dX4_drop_44 (by first | assumption | exact rfl | exact al13 rfl | exact Nat.le_of_ble_eq_true rfl) rfl ?_
        refine g_if_le (tgt := 52) (pc' := 50) C dX4_drop_47 (by decide) rfl (fun c6 => absurd c6 (by first | decide | rw [thv]; decide)) (fun c6 => ?_)
        refine g_iconst (v := 0) (pc' := 51) C dX4_drop_50 (by decide) rfl ?_
        exact g_iret C hR dX4_drop_51 ⟨by simp [mO10, mK10, th, hn, hcl, c1, c2, c4, c6], by simp [mO10, mK10, th, hn, hcl, c1, c2, c4, c6], rfl⟩
  · have hn : oM x N = true := oM_T hx
    refine k_X4_121 (pc' := 6) C (m_X4_isHearingN X hx) dX4_drop_3 (by first | assumption | exact rfl | exact al13 rfl | exact Nat.le_of_ble_eq_true rfl) ⟨⟨Nat.le_of_ble_eq_true rfl, Nat.le_of_ble_eq_true rfl⟩, rfl, rfl⟩ (Nat.le_of_ble_eq_true rfl) ⟨Nat.zero_le _, Nat.zero_le _⟩ rfl ?_
    refine g_if_ne (tgt := 13) (pc' := 9) C dX4_drop_6 (by decide) rfl (fun c7 => absurd (by first | decide | rw [thv]; decide) c7) (fun c7 => ?_)
    refine g_iconst (v := 1) (pc' := 10) C dX4_drop_9 (by decide) rfl ?_
    refine g_goto (tgt := 40) C dX4_drop_10 (by decide) ?_
    refine p_X4_71 (pc' := 43) C dX4_drop_40 (by first | assumption | exact rfl | exact al13 rfl | exact Nat.le_of_ble_eq_true rfl) rfl ?_
    refine g_aload_n (pc' := 44) C dX4_drop_43 rfl rfl ?_
    refine f_X4_71 (pc' := 47) C dX4_drop_44 (by first | assumption | exact rfl | exact al13 rfl | exact Nat.le_of_ble_eq_true rfl) rfl ?_
    refine g_if_le (tgt := 52) (pc' := 50) C dX4_drop_47 (by decide) rfl (fun c8 => absurd c8 (by first | decide | rw [thv]; decide)) (fun c8 => ?_)
    refine g_iconst (v := 0) (pc' := 51) C dX4_drop_50 (by decide) rfl ?_
    exact g_iret C hR dX4_drop_51 ⟨by simp [mO10, mK10, th, hn, c7, c8], by simp [mO10, mK10, th, hn, c7, c8], rfl⟩
set_option maxRecDepth 20000 in
theorem m_X4_notice {l : Launch} {g : wG} {z : wZ} {I : wI} {P : wP} {O : wO} {M N : Nat} {x y : Int32} (X : MI M N I) : RT l yX4_notice cX4_notice 5 ((some .boolean)) { frames := 2, cells := 0, slots := 0, locals := 43 } g z [.ref (g.2.2 12 0), .int x, .int y] I P O (dp (some (.int (mO11 I N x y).2)) ((mO11 I N x y).1) (P)) := by
  refine RT.of (own := RX4) rfl (by decide +kernel) (Nat.le_of_ble_eq_true rfl) rfl (fun K C hl hg hR => ?_)
  subst hl
  subst hg
  refine g_aload_n (pc' := 1) C dX4_notice_0 rfl rfl ?_
  refine g_iload_n (pc' := 2) C dX4_notice_1 rfl rfl ?_
  rcases in_of x N (by have := X.1; have := X.2.1; omega) with ⟨j, hj, hxj⟩ | hx
  · have hn : oM x N = false := oM_F hj hxj (by have := X.1; have := X.2.1; omega)
    have hcl : x.toNatClampNeg = j := by rw [hxj]; exact nI_clamp (by have := X.1; have := X.2.1; omega)
    have hcap : j < 24 := by have := X.1; have := X.2.1; omega
    refine k_X4_121 (pc' := 5) C (m_X4_isHearingS X hxj hj) dX4_notice_2 (by first | assumption | exact rfl | exact al13 rfl | exact Nat.le_of_ble_eq_true rfl) ⟨⟨Nat.le_of_ble_eq_true rfl, Nat.le_of_ble_eq_true rfl⟩, rfl, rfl⟩ (Nat.le_of_ble_eq_true rfl) ⟨Nat.zero_le _, Nat.zero_le _⟩ rfl ?_
    refine g_if_eq (tgt := 17) (pc' := 8) C dX4_notice_5 (by decide) rfl (fun c1 => absurd c1 (by first | decide | rw [thv]; decide)) (fun c1 => ?_)
    refine g_iload_n (pc' := 9) C dX4_notice_8 rfl rfl ?_
    refine g_iconst (v := 0) (pc' := 10) C dX4_notice_9 (by decide) rfl ?_
    refine g_iconst (v := 5) (pc' := 11) C dX4_notice_10 (by decide) rfl ?_
    refine k_X4_78 (pc' := 14) C (m_X4_in) dX4_notice_11 ⟨⟨Nat.le_of_ble_eq_true rfl, Nat.le_of_ble_eq_true rfl⟩, rfl, rfl⟩ (Nat.le_of_ble_eq_true rfl) ⟨Nat.zero_le _, Nat.zero_le _⟩ rfl ?_
    refine g_if_ne (tgt := 24) (pc' := 17) C dX4_notice_14 (by decide) rfl (fun c2 => ?_) (fun c2 => ?_)
    ·
      have c2 := b2_1.mp c2
      refine g_aload_n (pc' := 25) C dX4_notice_24 rfl rfl ?_
      refine f_X4_26 (pc' := 28) C dX4_notice_25 (by first | assumption | exact rfl | exact al13 rfl | exact Nat.le_of_ble_eq_true rfl) rfl ?_
      refine g_aload_n (pc' := 29) C dX4_notice_28 rfl rfl ?_
      refine f_X4_44 (pc' := 32) C dX4_notice_29 (by first | assumption | exact rfl | exact al13 rfl | exact Nat.le_of_ble_eq_true rfl) rfl ?_
      refine g_iload_n (pc' := 33) C dX4_notice_32 rfl rfl ?_
      refine g_iald (pc' := 34) C (j) hxj hcap dX4_notice_33 (by first | assumption | exact rfl | exact al13 rfl | exact Nat.le_of_ble_eq_true rfl) rfl rfl rfl ?_
      refine g_iald (pc' := 35) C (mm I j) (X.mt hj) (X.mt2 hj) dX4_notice_34 (by first | assumption | exact rfl | exact al13 rfl | exact Nat.le_of_ble_eq_true rfl) rfl rfl rfl ?_
      refine g_iload_n (pc' := 36) C dX4_notice_35 rfl rfl ?_
      refine g_icmp_ne (tgt := 43) (pc' := 39) C dX4_notice_36 (by decide) rfl (fun c3 => ?_) (fun c3 => ?_)
      ·
        refine g_iconst (v := 0) (pc' := 44) C dX4_notice_43 (by decide) rfl ?_
        refine g_istore_n (pc' := 45) C dX4_notice_44 rfl rfl ?_
        refine g_aload_n (pc' := 46) C dX4_notice_45 rfl rfl ?_
        refine g_iload_n (pc' := 47) C dX4_notice_46 rfl rfl ?_
        refine g_if_ne (tgt := 69) (pc' := 50) C dX4_notice_47 (by decide) rfl (fun c4 => absurd (by first | decide | rw [thv]; decide) c4) (fun c4 => ?_)
        refine g_aload_n (pc' := 51) C dX4_notice_50 rfl rfl ?_
        refine f_X4_29 (pc' := 54) C dX4_notice_51 (by first | assumption | exact rfl | exact al13 rfl | exact Nat.le_of_ble_eq_true rfl) rfl ?_
        refine g_aload_n (pc' := 55) C dX4_notice_54 rfl rfl ?_
        refine f_X4_44 (pc' := 58) C dX4_notice_55 (by first | assumption | exact rfl | exact al13 rfl | exact Nat.le_of_ble_eq_true rfl) rfl ?_
        refine g_iload_n (pc' := 59) C dX4_notice_58 rfl rfl ?_
        refine g_iald (pc' := 60) C (j) hxj hcap dX4_notice_59 (by first | assumption | exact rfl | exact al13 rfl | exact Nat.le_of_ble_eq_true rfl) rfl rfl rfl ?_
        refine g_iald (pc' := 61) C (mm I j) (X.mt hj) (X.mt2 hj) dX4_notice_60 (by first | assumption | exact rfl | exact al13 rfl | exact Nat.le_of_ble_eq_true rfl) rfl rfl rfl ?_
        refine g_iload_n (pc' := 62) C dX4_notice_61 rfl rfl ?_
        refine g_icmp_eq (tgt := 69) (pc' := 65) C dX4_notice_62 (by decide) rfl (fun c5 => ?_) (fun c5 => ?_)
        ·
          refine g_aload_n (pc' := 70) C dX4_notice_69 rfl rfl ?_
          refine f_X4_41 (pc' := 73) C dX4_notice_70 (by first | assumption | exact rfl | exact al13 rfl | exact Nat.le_of_ble_eq_true rfl) rfl ?_
          refine g_iload_n (pc' := 74) C dX4_notice_73 rfl rfl ?_
          refine g_iald (pc' := 75) C (j) hxj hcap dX4_notice_74 (by first | assumption | exact rfl | exact al13 rfl | exact Nat.le_of_ble_eq_true rfl) rfl rfl rfl ?_
          refine g_if_eq (tgt := 82) (pc' := 78) C dX4_notice_75 (by decide) rfl (fun c6 => ?_) (fun c6 => ?_)
          ·
            refine g_iconst (v := 0) (pc' := 83) C dX4_notice_82 (by decide) rfl ?_
            refine p_X4_71 (pc' := 86) C dX4_notice_83 (by first | assumption | exact rfl | exact al13 rfl | exact Nat.le_of_ble_eq_true rfl) rfl ?_
            refine g_aload_n (pc' := 87) C dX4_notice_86 rfl rfl ?_
            refine f_X4_71 (pc' := 90) C dX4_notice_87 (by first | assumption | exact rfl | exact al13 rfl | exact Nat.le_of_ble_eq_true rfl) rfl ?_
            refine g_if_le (tgt := 95) (pc' := 93) C dX4_notice_90 (by decide) rfl (fun c7 => ?_) (fun c7 => absurd (by first | decide | rw [thv]; decide) c7)
            refine g_aload_n (pc' := 96) C dX4_notice_95 rfl rfl ?_
            refine f_X4_53 (pc' := 99) C dX4_notice_96 (by first | assumption | exact rfl | exact al13 rfl | exact Nat.le_of_ble_eq_true rfl) rfl ?_
            refine g_iload_n (pc' := 100) C dX4_notice_99 rfl rfl ?_
            refine g_iald (pc' := 101) C (j) hxj hcap dX4_notice_100 (by first | assumption | exact rfl | exact al13 rfl | exact Nat.le_of_ble_eq_true rfl) rfl rfl rfl ?_
            refine g_aload_n (pc' := 102) C dX4_notice_101 rfl rfl ?_
            refine f_X4_85 (pc' := 105) C dX4_notice_102 (by first | assumption | exact rfl | exact al13 rfl | exact Nat.le_of_ble_eq_true rfl) rfl ?_
            refine g_isub (pc' := 106) C dX4_notice_105 rfl ?_
            refine g_iconst (v := 4) (pc' := 107) C dX4_notice_106 (by decide) rfl ?_
            refine g_icmp_lt (tgt := 114) (pc' := 110) C dX4_notice_107 (by decide) rfl (fun c8 => ?_) (fun c8 => ?_)
            ·
              try simp only [up12_13, up12_1] at c8
              refine g_iconst (v := 0) (pc' := 115) C dX4_notice_114 (by decide) rfl ?_
              refine g_istore (pc' := 117) C dX4_notice_115 rfl rfl ?_
              refine g_aload_n (pc' := 118) C dX4_notice_117 rfl rfl ?_
              refine f_X4_59 (pc' := 121) C dX4_notice_118 (by first | assumption | exact rfl | exact al13 rfl | exact Nat.le_of_ble_eq_true rfl) rfl ?_
              refine g_iload_n (pc' := 122) C dX4_notice_121 rfl rfl ?_
              refine g_dup2 (pc' := 123) C dX4_notice_122 rfl rfl rfl ?_
              refine g_iald (pc' := 124) C (j) hxj hcap dX4_notice_123 (by first | assumption | exact rfl | exact al13 rfl | exact Nat.le_of_ble_eq_true rfl) rfl rfl rfl ?_
              refine g_iload (pc' := 126) C dX4_notice_124 rfl rfl ?_
              refine g_if_eq (tgt := 141) (pc' := 129) C dX4_notice_126 (by decide) rfl (fun c9 => ?_) (fun c9 => absurd (by first | decide | rw [thv]; decide) c9)
              refine g_iconst (v := 0) (pc' := 142) C dX4_notice_141 (by decide) rfl ?_
              refine g_ior (pc' := 143) C dX4_notice_142 rfl ?_
              refine g_iast (pc' := 144) C (j) hxj hcap dX4_notice_143 (by first | assumption | exact rfl | exact al13 rfl | exact Nat.le_of_ble_eq_true rfl) (fun _ => rfl) rfl rfl ?_
              refine g_iload (pc' := 146) C dX4_notice_144 rfl rfl ?_
              exact g_zret C hR dX4_notice_146 rfl ⟨by simp [mO11, mK11, th, upI_at, hn, hcl, c1, c2, c3, c4, c5, c6, c7, c8, c9], by simp [mO11, mK11, th, upI_at, hn, hcl, c1, c2, c3, c4, c5, c6, c7, c8, c9], rfl⟩
            ·
              try simp only [up12_13, up12_1] at c8
              refine g_iconst (v := 1) (pc' := 111) C dX4_notice_110 (by decide) rfl ?_
              refine g_goto (tgt := 115) C dX4_notice_111 (by decide) ?_
              refine g_istore (pc' := 117) C dX4_notice_115 rfl rfl ?_
              refine g_aload_n (pc' := 118) C dX4_notice_117 rfl rfl ?_
              refine f_X4_59 (pc' := 121) C dX4_notice_118 (by first | assumption | exact rfl | exact al13 rfl | exact Nat.le_of_ble_eq_true rfl) rfl ?_
              refine g_iload_n (pc' := 122) C dX4_notice_121 rfl rfl ?_
              refine g_dup2 (pc' := 123) C dX4_notice_122 rfl rfl rfl ?_
              refine g_iald (pc' := 124) C (j) hxj hcap dX4_notice_123 (by first | assumption | exact rfl | exact al13 rfl | exact Nat.le_of_ble_eq_true rfl) rfl rfl rfl ?_
              refine g_iload (pc' := 126) C dX4_notice_124 rfl rfl ?_
              refine g_if_eq (tgt := 141) (pc' := 129) C dX4_notice_126 (by decide) rfl (fun c10 => absurd c10 (by first | decide | rw [thv]; decide)) (fun c10 => ?_)
              refine g_iload_n (pc' := 130) C dX4_notice_129 rfl rfl ?_
              refine g_if_eq (tgt := 137) (pc' := 133) C dX4_notice_130 (by decide) rfl (fun c11 => ?_) (fun c11 => absurd (by first | decide | rw [thv]; decide) c11)
              refine g_iconst (v := 2) (pc' := 138) C dX4_notice_137 (by decide) rfl ?_
              refine g_goto (tgt := 142) C dX4_notice_138 (by decide) ?_
              refine g_ior (pc' := 143) C dX4_notice_142 rfl ?_
              refine g_iast (pc' := 144) C (j) hxj hcap dX4_notice_143 (by first | assumption | exact rfl | exact al13 rfl | exact Nat.le_of_ble_eq_true rfl) (fun _ => rfl) rfl rfl ?_
              refine g_iload (pc' := 146) C dX4_notice_144 rfl rfl ?_
              exact g_zret C hR dX4_notice_146 rfl ⟨by simp [mO11, mK11, th, upI_at, hn, hcl, c1, c2, c3, c4, c5, c6, c7, c8, c10, c11], by simp [mO11, mK11, th, upI_at, hn, hcl, c1, c2, c3, c4, c5, c6, c7, c8, c10, c11], rfl⟩
          ·
            refine g_iconst (v := 3) (pc' := 79) C dX4_notice_78 (by decide) rfl ?_
            refine g_goto (tgt := 83) C dX4_notice_79 (by decide) ?_
            refine p_X4_71 (pc' := 86) C dX4_notice_83 (by first | assumption | exact rfl | exact al13 rfl | exact Nat.le_of_ble_eq_true rfl) rfl ?_
            refine g_aload_n (pc' := 87) C dX4_notice_86 rfl rfl ?_
            refine f_X4_71 (pc' := 90) C dX4_notice_87 (by first | assumption | exact rfl | exact al13 rfl | exact Nat.le_of_ble_eq_true rfl) rfl ?_
            refine g_if_le (tgt := 95) (pc' := 93) C dX4_notice_90 (by decide) rfl (fun c12 => absurd c12 (by first | decide | rw [thv]; decide)) (fun c12 => ?_)
            refine g_iconst (v := 0) (pc' := 94) C dX4_notice_93 (by decide) rfl ?_
            exact g_zret C hR dX4_notice_94 rfl ⟨by simp [mO11, mK11, th, upI_at, hn, hcl, c1, c2, c3, c4, c5, c6, c12], by simp [mO11, mK11, th, upI_at, hn, hcl, c1, c2, c3, c4, c5, c6, c12], rfl⟩
        ·
          refine g_iconst (v := 2) (pc' := 66) C dX4_notice_65 (by decide) rfl ?_
          refine g_goto (tgt := 83) C dX4_notice_66 (by decide) ?_
          refine p_X4_71 (pc' := 86) C dX4_notice_83 (by first | assumption | exact rfl | exact al13 rfl | exact Nat.le_of_ble_eq_true rfl) rfl ?_
          refine g_aload_n (pc' := 87) C dX4_notice_86 rfl rfl ?_
          refine f_X4_71 (pc' := 90) C dX4_notice_87 (by first | assumption | exact rfl | exact al13 rfl | exact Nat.le_of_ble_eq_true rfl) rfl ?_
          refine g_if_le (tgt := 95) (pc' := 93) C dX4_notice_90 (by decide) rfl (fun c13 => absurd c13 (by first | decide | rw [thv]; decide)) (fun c13 => ?_)
          refine g_iconst (v := 0) (pc' := 94) C dX4_notice_93 (by decide) rfl ?_
          exact g_zret C hR dX4_notice_94 rfl ⟨by simp [mO11, mK11, th, upI_at, hn, hcl, c1, c2, c3, c4, c5, c13], by simp [mO11, mK11, th, upI_at, hn, hcl, c1, c2, c3, c4, c5, c13], rfl⟩
      ·
        refine g_iconst (v := 1) (pc' := 40) C dX4_notice_39 (by decide) rfl ?_
        refine g_goto (tgt := 44) C dX4_notice_40 (by decide) ?_
        refine g_istore_n (pc' := 45) C dX4_notice_44 rfl rfl ?_
        refine g_aload_n (pc' := 46) C dX4_notice_45 rfl rfl ?_
        refine g_iload_n (pc' := 47) C dX4_notice_46 rfl rfl ?_
        refine g_if_ne (tgt := 69) (pc' := 50) C dX4_notice_47 (by decide) rfl (fun c14 => ?_) (fun c14 => absurd c14 (by first | decide | rw [thv]; decide))
        refine g_aload_n (pc' := 70) C dX4_notice_69 rfl rfl ?_
        refine f_X4_41 (pc' := 73) C dX4_notice_70 (by first | assumption | exact rfl | exact al13 rfl | exact Nat.le_of_ble_eq_true rfl) rfl ?_
        refine g_iload_n (pc' := 74) C dX4_notice_73 rfl rfl ?_
        refine g_iald (pc' := 75) C (j) hxj hcap dX4_notice_74 (by first | assumption | exact rfl | exact al13 rfl | exact Nat.le_of_ble_eq_true rfl) rfl rfl rfl ?_
        refine g_if_eq (tgt := 82) (pc' := 78) C dX4_notice_75 (by decide) rfl (fun c15 => ?_) (fun c15 => ?_)
        ·
          refine g_iconst (v := 0) (pc' := 83) C dX4_notice_82 (by decide) rfl ?_
          refine p_X4_71 (pc' := 86) C dX4_notice_83 (by first | assumption | exact rfl | exact al13 rfl | exact Nat.le_of_ble_eq_true rfl) rfl ?_
          refine g_aload_n (pc' := 87) C dX4_notice_86 rfl rfl ?_
          refine f_X4_71 (pc' := 90) C dX4_notice_87 (by first | assumption | exact rfl | exact al13 rfl | exact Nat.le_of_ble_eq_true rfl) rfl ?_
          refine g_if_le (tgt := 95) (pc' := 93) C dX4_notice_90 (by decide) rfl (fun c16 => ?_) (fun c16 => absurd (by first | decide | rw [thv]; decide) c16)
          refine g_aload_n (pc' := 96) C dX4_notice_95 rfl rfl ?_
          refine f_X4_53 (pc' := 99) C dX4_notice_96 (by first | assumption | exact rfl | exact al13 rfl | exact Nat.le_of_ble_eq_true rfl) rfl ?_
          refine g_iload_n (pc' := 100) C dX4_notice_99 rfl rfl ?_
          refine g_iald (pc' := 101) C (j) hxj hcap dX4_notice_100 (by first | assumption | exact rfl | exact al13 rfl | exact Nat.le_of_ble_eq_true rfl) rfl rfl rfl ?_
          refine g_aload_n (pc' := 102) C dX4_notice_101 rfl rfl ?_
          refine f_X4_85 (pc' := 105) C dX4_notice_102 (by first | assumption | exact rfl | exact al13 rfl | exact Nat.le_of_ble_eq_true rfl) rfl ?_
          refine g_isub (pc' := 106) C dX4_notice_105 rfl ?_
          refine g_iconst (v := 4) (pc' := 107) C dX4_notice_106 (by decide) rfl ?_
          refine g_icmp_lt (tgt := 114) (pc' := 110) C dX4_notice_107 (by decide) rfl (fun c17 => ?_) (fun c17 => ?_)
          ·
            try simp only [up12_13, up12_1] at c17
            refine g_iconst (v := 0) (pc' := 115) C dX4_notice_114 (by decide) rfl ?_
            refine g_istore (pc' := 117) C dX4_notice_115 rfl rfl ?_
            refine g_aload_n (pc' := 118) C dX4_notice_117 rfl rfl ?_
            refine f_X4_59 (pc' := 121) C dX4_notice_118 (by first | assumption | exact rfl | exact al13 rfl | exact Nat.le_of_ble_eq_true rfl) rfl ?_
            refine g_iload_n (pc' := 122) C dX4_notice_121 rfl rfl ?_
            refine g_dup2 (pc' := 123) C dX4_notice_122 rfl rfl rfl ?_
            refine g_iald (pc' := 124) C (j) hxj hcap dX4_notice_123 (by first | assumption | exact rfl | exact al13 rfl | exact Nat.le_of_ble_eq_true rfl) rfl rfl rfl ?_
            refine g_iload (pc' := 126) C dX4_notice_124 rfl rfl ?_
            refine g_if_eq (tgt := 141) (pc' := 129) C dX4_notice_126 (by decide) rfl (fun c18 => ?_) (fun c18 => absurd (by first | decide | rw [thv]; decide) c18)
            refine g_iconst (v := 0) (pc' := 142) C dX4_notice_141 (by decide) rfl ?_
            refine g_ior (pc' := 143) C dX4_notice_142 rfl ?_
            refine g_iast (pc' := 144) C (j) hxj hcap dX4_notice_143 (by first | assumption | exact rfl | exact al13 rfl | exact Nat.le_of_ble_eq_true rfl) (fun _ => rfl) rfl rfl ?_
            refine g_iload (pc' := 146) C dX4_notice_144 rfl rfl ?_
            exact g_zret C hR dX4_notice_146 rfl ⟨by simp [mO11, mK11, th, upI_at, hn, hcl, c1, c2, c3, c14, c15, c16, c17, c18], by simp [mO11, mK11, th, upI_at, hn, hcl, c1, c2, c3, c14, c15, c16, c17, c18], rfl⟩
          ·
            try simp only [up12_13, up12_1] at c17
            refine g_iconst (v := 1) (pc' := 111) C dX4_notice_110 (by decide) rfl ?_
            refine g_goto (tgt := 115) C dX4_notice_111 (by decide) ?_
            refine g_istore (pc' := 117) C dX4_notice_115 rfl rfl ?_
            refine g_aload_n (pc' := 118) C dX4_notice_117 rfl rfl ?_
            refine f_X4_59 (pc' := 121) C dX4_notice_118 (by first | assumption | exact rfl | exact al13 rfl | exact Nat.le_of_ble_eq_true rfl) rfl ?_
            refine g_iload_n (pc' := 122) C dX4_notice_121 rfl rfl ?_
            refine g_dup2 (pc' := 123) C dX4_notice_122 rfl rfl rfl ?_
            refine g_iald (pc' := 124) C (j) hxj hcap dX4_notice_123 (by first | assumption | exact rfl | exact al13 rfl | exact Nat.le_of_ble_eq_true rfl) rfl rfl rfl ?_
            refine g_iload (pc' := 126) C dX4_notice_124 rfl rfl ?_
            refine g_if_eq (tgt := 141) (pc' := 129) C dX4_notice_126 (by decide) rfl (fun c19 => absurd c19 (by first | decide | rw [thv]; decide)) (fun c19 => ?_)
            refine g_iload_n (pc' := 130) C dX4_notice_129 rfl rfl ?_
            refine g_if_eq (tgt := 137) (pc' := 133) C dX4_notice_130 (by decide) rfl (fun c20 => absurd c20 (by first | decide | rw [thv]; decide)) (fun c20 => ?_)
            refine g_iconst (v := 1) (pc' := 134) C dX4_notice_133 (by decide) rfl ?_
            refine g_goto (tgt := 142) C dX4_notice_134 (by decide) ?_
            refine g_ior (pc' := 143) C dX4_notice_142 rfl ?_
            refine g_iast (pc' := 144) C (j) hxj hcap dX4_notice_143 (by first | assumption | exact rfl | exact al13 rfl | exact Nat.le_of_ble_eq_true rfl) (fun _ => rfl) rfl rfl ?_
            refine g_iload (pc' := 146) C dX4_notice_144 rfl rfl ?_
            exact g_zret C hR dX4_notice_146 rfl ⟨by simp [mO11, mK11, th, upI_at, hn, hcl, c1, c2, c3, c14, c15, c16, c17, c19, c20], by simp [mO11, mK11, th, upI_at, hn, hcl, c1, c2, c3, c14, c15, c16, c17, c19, c20], rfl⟩
        ·
          refine g_iconst (v := 3) (pc' := 79) C dX4_notice_78 (by decide) rfl ?_
          refine g_goto (tgt := 83) C dX4_notice_79 (by decide) ?_
          refine p_X4_71 (pc' := 86) C dX4_notice_83 (by first | assumption | exact rfl | exact al13 rfl | exact Nat.le_of_ble_eq_true rfl) rfl ?_
          refine g_aload_n (pc' := 87) C dX4_notice_86 rfl rfl ?_
          refine f_X4_71 (pc' := 90) C dX4_notice_87 (by first | assumption | exact rfl | exact al13 rfl | exact Nat.le_of_ble_eq_true rfl) rfl ?_
          refine g_if_le (tgt := 95) (pc' := 93) C dX4_notice_90 (by decide) rfl (fun c21 => absurd c21 (by first | decide | rw [thv]; decide)) (fun c21 => ?_)
          refine g_iconst (v := 0) (pc' := 94) C dX4_notice_93 (by decide) rfl ?_
          exact g_zret C hR dX4_notice_94 rfl ⟨by simp [mO11, mK11, th, upI_at, hn, hcl, c1, c2, c3, c14, c15, c21], by simp [mO11, mK11, th, upI_at, hn, hcl, c1, c2, c3, c14, c15, c21], rfl⟩
    ·
      have c2 := b2_0.mp c2
      refine g_aload_n (pc' := 18) C dX4_notice_17 rfl rfl ?_
      refine g_iconst (v := 1) (pc' := 19) C dX4_notice_18 (by decide) rfl ?_
      refine p_X4_71 (pc' := 22) C dX4_notice_19 (by first | assumption | exact rfl | exact al13 rfl | exact Nat.le_of_ble_eq_true rfl) rfl ?_
      refine g_iconst (v := 0) (pc' := 23) C dX4_notice_22 (by decide) rfl ?_
      exact g_zret C hR dX4_notice_23 rfl ⟨by simp [mO11, mK11, th, upI_at, hn, hcl, c1, c2], by simp [mO11, mK11, th, upI_at, hn, hcl, c1, c2], rfl⟩
  · have hn : oM x N = true := oM_T hx
    refine k_X4_121 (pc' := 5) C (m_X4_isHearingN X hx) dX4_notice_2 (by first | assumption | exact rfl | exact al13 rfl | exact Nat.le_of_ble_eq_true rfl) ⟨⟨Nat.le_of_ble_eq_true rfl, Nat.le_of_ble_eq_true rfl⟩, rfl, rfl⟩ (Nat.le_of_ble_eq_true rfl) ⟨Nat.zero_le _, Nat.zero_le _⟩ rfl ?_
    refine g_if_eq (tgt := 17) (pc' := 8) C dX4_notice_5 (by decide) rfl (fun c22 => ?_) (fun c22 => absurd (by first | decide | rw [thv]; decide) c22)
    refine g_aload_n (pc' := 18) C dX4_notice_17 rfl rfl ?_
    refine g_iconst (v := 1) (pc' := 19) C dX4_notice_18 (by decide) rfl ?_
    refine p_X4_71 (pc' := 22) C dX4_notice_19 (by first | assumption | exact rfl | exact al13 rfl | exact Nat.le_of_ble_eq_true rfl) rfl ?_
    refine g_iconst (v := 0) (pc' := 23) C dX4_notice_22 (by decide) rfl ?_
    exact g_zret C hR dX4_notice_23 rfl ⟨by simp [mO11, mK11, th, upI_at, hn, c22], by simp [mO11, mK11, th, upI_at, hn, c22], rfl⟩
set_option maxRecDepth 20000 in
theorem m_X4_clash {l : Launch} {g : wG} {z : wZ} {I : wI} {P : wP} {O : wO} {M N : Nat} {x r w a y : Int32} (X : MI M N I) : RT l yX4_clash cX4_clash 6 ((some .int)) { frames := 3, cells := 0, slots := 0, locals := 81 } g z [.ref (g.2.2 12 0), .int x, .int r, .int w, .int a, .int y] I P O (dp (some (.int (mO13 I M N x r w a y).2)) ((mO13 I M N x r w a y).1) (P)) := by
  refine RT.of (own := RX4) rfl (by decide +kernel) (Nat.le_of_ble_eq_true rfl) rfl (fun K C hl hg hR => ?_)
  subst hl
  subst hg
  refine g_aload_n (pc' := 1) C dX4_clash_0 rfl rfl ?_
  refine g_aload_n (pc' := 2) C dX4_clash_1 rfl rfl ?_
  refine g_iload_n (pc' := 3) C dX4_clash_2 rfl rfl ?_
  rcases in_of x M (by have := X.1; have := X.2.1; omega) with ⟨j, hj, hxj⟩ | hx
  · have hn : oM x M = false := oM_F hj hxj (by have := X.1; have := X.2.1; omega)
    have hcl : x.toNatClampNeg = j := by rw [hxj]; exact nI_clamp (by have := X.1; have := X.2.1; omega)
    have hcap : j < 12 := by have := X.1; have := X.2.1; omega
    refine k_X4_88 (pc' := 6) C (m_X4_isMatterS X hxj hj) dX4_clash_3 (by first | assumption | exact rfl | exact al13 rfl | exact Nat.le_of_ble_eq_true rfl) ⟨⟨Nat.le_of_ble_eq_true rfl, Nat.le_of_ble_eq_true rfl⟩, rfl, rfl⟩ (Nat.le_of_ble_eq_true rfl) ⟨Nat.zero_le _, Nat.zero_le _⟩ rfl ?_
    refine g_if_eq (tgt := 25) (pc' := 9) C dX4_clash_6 (by decide) rfl (fun c1 => absurd c1 (by first | decide | rw [thv]; decide)) (fun c1 => ?_)
    refine g_iload_n (pc' := 10) C dX4_clash_9 rfl rfl ?_
    refine g_iconst (v := 0) (pc' := 11) C dX4_clash_10 (by decide) rfl ?_
    refine g_iconst (v := 3) (pc' := 12) C dX4_clash_11 (by decide) rfl ?_
    refine k_X4_78 (pc' := 15) C (m_X4_in) dX4_clash_12 ⟨⟨Nat.le_of_ble_eq_true rfl, Nat.le_of_ble_eq_true rfl⟩, rfl, rfl⟩ (Nat.le_of_ble_eq_true rfl) ⟨Nat.zero_le _, Nat.zero_le _⟩ rfl ?_
    refine g_if_eq (tgt := 25) (pc' := 18) C dX4_clash_15 (by decide) rfl (fun c2 => ?_) (fun c2 => ?_)
    ·
      have c2 := b2_0.mp c2
      refine g_iconst (v := 1) (pc' := 26) C dX4_clash_25 (by decide) rfl ?_
      refine g_goto (tgt := 56) C dX4_clash_26 (by decide) ?_
      refine p_X4_71 (pc' := 59) C dX4_clash_56 (by first | assumption | exact rfl | exact al13 rfl | exact Nat.le_of_ble_eq_true rfl) rfl ?_
      refine g_aload_n (pc' := 60) C dX4_clash_59 rfl rfl ?_
      refine f_X4_71 (pc' := 63) C dX4_clash_60 (by first | assumption | exact rfl | exact al13 rfl | exact Nat.le_of_ble_eq_true rfl) rfl ?_
      refine g_if_le (tgt := 70) (pc' := 66) C dX4_clash_63 (by decide) rfl (fun c3 => absurd c3 (by first | decide | rw [thv]; decide)) (fun c3 => ?_)
      refine g_iconst (v := 0) (pc' := 67) C dX4_clash_66 (by decide) rfl ?_
      refine g_goto (tgt := 82) C dX4_clash_67 (by decide) ?_
      exact g_iret C hR dX4_clash_82 ⟨by simp [mO13, mK13, th, hn, hcl, c1, c2, c3], by simp [mO13, mK13, th, hn, hcl, c1, c2, c3], rfl⟩
    ·
      have c2 := b2_1.mp c2
      refine g_iload_n (pc' := 19) C dX4_clash_18 rfl rfl ?_
      refine k_X4_104 (pc' := 22) C (m_X4_isSpeaker) dX4_clash_19 ⟨⟨Nat.le_of_ble_eq_true rfl, Nat.le_of_ble_eq_true rfl⟩, rfl, rfl⟩ (Nat.le_of_ble_eq_true rfl) ⟨Nat.zero_le _, Nat.zero_le _⟩ rfl ?_
      refine g_if_ne (tgt := 29) (pc' := 25) C dX4_clash_22 (by decide) rfl (fun c4 => ?_) (fun c4 => ?_)
      ·
        have c4 := b2_1.mp c4
        refine g_iload (pc' := 31) C dX4_clash_29 rfl rfl ?_
        refine g_iconst (v := 0) (pc' := 32) C dX4_clash_31 (by decide) rfl ?_
        refine g_sipush (v := 999) (pc' := 35) C dX4_clash_32 (by decide) rfl ?_
        refine k_X4_78 (pc' := 38) C (m_X4_in) dX4_clash_35 ⟨⟨Nat.le_of_ble_eq_true rfl, Nat.le_of_ble_eq_true rfl⟩, rfl, rfl⟩ (Nat.le_of_ble_eq_true rfl) ⟨Nat.zero_le _, Nat.zero_le _⟩ rfl ?_
        refine g_if_eq (tgt := 51) (pc' := 41) C dX4_clash_38 (by decide) rfl (fun c5 => ?_) (fun c5 => ?_)
        ·
          have c5 := b2_0.mp c5
          refine g_iconst (v := 2) (pc' := 52) C dX4_clash_51 (by decide) rfl ?_
          refine g_goto (tgt := 56) C dX4_clash_52 (by decide) ?_
          refine p_X4_71 (pc' := 59) C dX4_clash_56 (by first | assumption | exact rfl | exact al13 rfl | exact Nat.le_of_ble_eq_true rfl) rfl ?_
          refine g_aload_n (pc' := 60) C dX4_clash_59 rfl rfl ?_
          refine f_X4_71 (pc' := 63) C dX4_clash_60 (by first | assumption | exact rfl | exact al13 rfl | exact Nat.le_of_ble_eq_true rfl) rfl ?_
          refine g_if_le (tgt := 70) (pc' := 66) C dX4_clash_63 (by decide) rfl (fun c6 => absurd c6 (by first | decide | rw [thv]; decide)) (fun c6 => ?_)
          refine g_iconst (v := 0) (pc' := 67) C dX4_clash_66 (by decide) rfl ?_
          refine g_goto (tgt := 82) C dX4_clash_67 (by decide) ?_
          exact g_iret C hR dX4_clash_82 ⟨by simp [mO13, mK13, th, hn, hcl, c1, c2, c4, c5, c6], by simp [mO13, mK13, th, hn, hcl, c1, c2, c4, c5, c6], rfl⟩
        ·
          have c5 := b2_1.mp c5
          refine g_iload (pc' := 43) C dX4_clash_41 rfl rfl ?_
          refine g_iconst (v := 1) (pc' := 44) C dX4_clash_43 (by decide) rfl ?_
          refine g_iconst (v := 4) (pc' := 45) C dX4_clash_44 (by decide) rfl ?_
          refine k_X4_78 (pc' := 48) C (m_X4_in) dX4_clash_45 ⟨⟨Nat.le_of_ble_eq_true rfl, Nat.le_of_ble_eq_true rfl⟩, rfl, rfl⟩ (Nat.le_of_ble_eq_true rfl) ⟨Nat.zero_le _, Nat.zero_le _⟩ rfl ?_
          refine g_if_ne (tgt := 55) (pc' := 51) C dX4_clash_48 (by decide) rfl (fun c7 => ?_) (fun c7 => ?_)
          ·
            have c7 := b2_1.mp c7
            refine g_iconst (v := 0) (pc' := 56) C dX4_clash_55 (by decide) rfl ?_
            refine p_X4_71 (pc' := 59) C dX4_clash_56 (by first | assumption | exact rfl | exact al13 rfl | exact Nat.le_of_ble_eq_true rfl) rfl ?_
            refine g_aload_n (pc' := 60) C dX4_clash_59 rfl rfl ?_
            refine f_X4_71 (pc' := 63) C dX4_clash_60 (by first | assumption | exact rfl | exact al13 rfl | exact Nat.le_of_ble_eq_true rfl) rfl ?_
            refine g_if_le (tgt := 70) (pc' := 66) C dX4_clash_63 (by decide) rfl (fun c8 => ?_) (fun c8 => absurd (by first | decide | rw [thv]; decide) c8)
            refine g_aload_n (pc' := 71) C dX4_clash_70 rfl rfl ?_
            refine g_iload_n (pc' := 72) C dX4_clash_71 rfl rfl ?_
            refine g_iload_n (pc' := 73) C dX4_clash_72 rfl rfl ?_
            refine g_iload_n (pc' := 74) C dX4_clash_73 rfl rfl ?_
            refine g_iload (pc' := 76) C dX4_clash_74 rfl rfl ?_
            refine g_iload (pc' := 78) C dX4_clash_76 rfl rfl ?_
            refine g_iconst (v := (-1)) (pc' := 79) C dX4_clash_78 (by decide) rfl ?_
            refine k_X4_114 (pc' := 82) C (m_X4_reason X.th hxj hcap) dX4_clash_79 (by first | assumption | exact rfl | exact al13 rfl | exact Nat.le_of_ble_eq_true rfl) ⟨⟨Nat.le_of_ble_eq_true rfl, Nat.le_of_ble_eq_true rfl⟩, rfl, rfl⟩ (Nat.le_of_ble_eq_true rfl) ⟨Nat.zero_le _, Nat.zero_le _⟩ rfl ?_
            exact g_iret C hR dX4_clash_82 ⟨by simp [mO13, mK13, th, hn, hcl, c1, c2, c4, c5, c7, c8], by simp [mO13, mK13, th, hn, hcl, c1, c2, c4, c5, c7, c8], rfl⟩
          ·
            have c7 := b2_0.mp c7
            refine g_iconst (v := 2) (pc' := 52) C dX4_clash_51 (by decide) rfl ?_
            refine g_goto (tgt := 56) C dX4_clash_52 (by decide) ?_
            refine p_X4_71 (pc' := 59) C dX4_clash_56 (by first | assumption | exact rfl | exact al13 rfl | exact Nat.le_of_ble_eq_true rfl) rfl ?_
            refine g_aload_n (pc' := 60) C dX4_clash_59 rfl rfl ?_
            refine f_X4_71 (pc' := 63) C dX4_clash_60 (by first | assumption | exact rfl | exact al13 rfl | exact Nat.le_of_ble_eq_true rfl) rfl ?_
            refine g_if_le (tgt := 70) (pc' := 66) C dX4_clash_63 (by decide) rfl (fun c9 => absurd c9 (by first | decide | rw [thv]; decide)) (fun c9 => ?_)
            refine g_iconst (v := 0) (pc' := 67) C dX4_clash_66 (by decide) rfl ?_
            refine g_goto (tgt := 82) C dX4_clash_67 (by decide) ?_
            exact g_iret C hR dX4_clash_82 ⟨by simp [mO13, mK13, th, hn, hcl, c1, c2, c4, c5, c7, c9], by simp [mO13, mK13, th, hn, hcl, c1, c2, c4, c5, c7, c9], rfl⟩
      ·
        have c4 := b2_0.mp c4
        refine g_iconst (v := 1) (pc' := 26) C dX4_clash_25 (by decide) rfl ?_
        refine g_goto (tgt := 56) C dX4_clash_26 (by decide) ?_
        refine p_X4_71 (pc' := 59) C dX4_clash_56 (by first | assumption | exact rfl | exact al13 rfl | exact Nat.le_of_ble_eq_true rfl) rfl ?_
        refine g_aload_n (pc' := 60) C dX4_clash_59 rfl rfl ?_
        refine f_X4_71 (pc' := 63) C dX4_clash_60 (by first | assumption | exact rfl | exact al13 rfl | exact Nat.le_of_ble_eq_true rfl) rfl ?_
        refine g_if_le (tgt := 70) (pc' := 66) C dX4_clash_63 (by decide) rfl (fun c10 => absurd c10 (by first | decide | rw [thv]; decide)) (fun c10 => ?_)
        refine g_iconst (v := 0) (pc' := 67) C dX4_clash_66 (by decide) rfl ?_
        refine g_goto (tgt := 82) C dX4_clash_67 (by decide) ?_
        exact g_iret C hR dX4_clash_82 ⟨by simp [mO13, mK13, th, hn, hcl, c1, c2, c4, c10], by simp [mO13, mK13, th, hn, hcl, c1, c2, c4, c10], rfl⟩
  · have hn : oM x M = true := oM_T hx
    refine k_X4_88 (pc' := 6) C (m_X4_isMatterN X hx) dX4_clash_3 (by first | assumption | exact rfl | exact al13 rfl | exact Nat.le_of_ble_eq_true rfl) ⟨⟨Nat.le_of_ble_eq_true rfl, Nat.le_of_ble_eq_true rfl⟩, rfl, rfl⟩ (Nat.le_of_ble_eq_true rfl) ⟨Nat.zero_le _, Nat.zero_le _⟩ rfl ?_
    refine g_if_eq (tgt := 25) (pc' := 9) C dX4_clash_6 (by decide) rfl (fun c11 => ?_) (fun c11 => absurd (by first | decide | rw [thv]; decide) c11)
    refine g_iconst (v := 1) (pc' := 26) C dX4_clash_25 (by decide) rfl ?_
    refine g_goto (tgt := 56) C dX4_clash_26 (by decide) ?_
    refine p_X4_71 (pc' := 59) C dX4_clash_56 (by first | assumption | exact rfl | exact al13 rfl | exact Nat.le_of_ble_eq_true rfl) rfl ?_
    refine g_aload_n (pc' := 60) C dX4_clash_59 rfl rfl ?_
    refine f_X4_71 (pc' := 63) C dX4_clash_60 (by first | assumption | exact rfl | exact al13 rfl | exact Nat.le_of_ble_eq_true rfl) rfl ?_
    refine g_if_le (tgt := 70) (pc' := 66) C dX4_clash_63 (by decide) rfl (fun c12 => absurd c12 (by first | decide | rw [thv]; decide)) (fun c12 => ?_)
    refine g_iconst (v := 0) (pc' := 67) C dX4_clash_66 (by decide) rfl ?_
    refine g_goto (tgt := 82) C dX4_clash_67 (by decide) ?_
    exact g_iret C hR dX4_clash_82 ⟨by simp [mO13, mK13, th, hn, c11, c12], by simp [mO13, mK13, th, hn, c11, c12], rfl⟩
set_option maxRecDepth 20000 in
theorem m_X4_about {l : Launch} {g : wG} {z : wZ} {I : wI} {P : wP} {O : wO} {M N nw : Nat} {x y : Int32} (X : MI M N I) (hnow : I 12 0 1 = nI nw) (hnw : nw ≤ 1000) : RT l yX4_about cX4_about 3 ((some .int)) { frames := 2, cells := 0, slots := 0, locals := 43 } g z [.ref (g.2.2 12 0), .int x, .int y] I P O (dp (some (.int (mO15 I M nw x y).2)) ((mO15 I M nw x y).1) (P)) := by
  refine RT.of (own := RX4) rfl (by decide +kernel) (Nat.le_of_ble_eq_true rfl) rfl (fun K C hl hg hR => ?_)
  subst hl
  subst hg
  refine g_aload_n (pc' := 1) C dX4_about_0 rfl rfl ?_
  refine g_aload_n (pc' := 2) C dX4_about_1 rfl rfl ?_
  refine g_iload_n (pc' := 3) C dX4_about_2 rfl rfl ?_
  rcases in_of x M (by have := X.1; have := X.2.1; omega) with ⟨j, hj, hxj⟩ | hx
  · have hn : oM x M = false := oM_F hj hxj (by have := X.1; have := X.2.1; omega)
    have hcl : x.toNatClampNeg = j := by rw [hxj]; exact nI_clamp (by have := X.1; have := X.2.1; omega)
    have hcap : j < 12 := by have := X.1; have := X.2.1; omega
    refine k_X4_88 (pc' := 6) C (m_X4_isMatterS X hxj hj) dX4_about_3 (by first | assumption | exact rfl | exact al13 rfl | exact Nat.le_of_ble_eq_true rfl) ⟨⟨Nat.le_of_ble_eq_true rfl, Nat.le_of_ble_eq_true rfl⟩, rfl, rfl⟩ (Nat.le_of_ble_eq_true rfl) ⟨Nat.zero_le _, Nat.zero_le _⟩ rfl ?_
    refine g_if_ne (tgt := 13) (pc' := 9) C dX4_about_6 (by decide) rfl (fun c1 => ?_) (fun c1 => absurd c1 (by first | decide | rw [thv]; decide))
    refine g_iload_n (pc' := 14) C dX4_about_13 rfl rfl ?_
    refine g_iconst (v := 0) (pc' := 15) C dX4_about_14 (by decide) rfl ?_
    refine g_bipush (v := 7) (pc' := 17) C dX4_about_15 (by decide) rfl ?_
    refine k_X4_78 (pc' := 20) C (m_X4_in) dX4_about_17 ⟨⟨Nat.le_of_ble_eq_true rfl, Nat.le_of_ble_eq_true rfl⟩, rfl, rfl⟩ (Nat.le_of_ble_eq_true rfl) ⟨Nat.zero_le _, Nat.zero_le _⟩ rfl ?_
    refine g_if_ne (tgt := 27) (pc' := 23) C dX4_about_20 (by decide) rfl (fun c2 => ?_) (fun c2 => ?_)
    ·
      have c2 := b2_1.mp c2
      refine g_iconst (v := 0) (pc' := 28) C dX4_about_27 (by decide) rfl ?_
      refine p_X4_71 (pc' := 31) C dX4_about_28 (by first | assumption | exact rfl | exact al13 rfl | exact Nat.le_of_ble_eq_true rfl) rfl ?_
      refine g_aload_n (pc' := 32) C dX4_about_31 rfl rfl ?_
      refine f_X4_71 (pc' := 35) C dX4_about_32 (by first | assumption | exact rfl | exact al13 rfl | exact Nat.le_of_ble_eq_true rfl) rfl ?_
      refine g_if_le (tgt := 40) (pc' := 38) C dX4_about_35 (by decide) rfl (fun c3 => ?_) (fun c3 => absurd (by first | decide | rw [thv]; decide) c3)
      refine g_iload_n (pc' := 41) C dX4_about_40 rfl rfl ?_
      rcases tsw7 y with hw | hw | hw | hw | hw | hw | hw | hw
      · subst hw
        refine g_tabIn (tgt := 84) C 0 (by rfl) dX4_about_41 (by decide) (by decide) rfl (by decide) ?_
        refine g_aload_n (pc' := 85) C dX4_about_84 rfl rfl ?_
        refine f_X4_20 (pc' := 88) C dX4_about_85 (by first | assumption | exact rfl | exact al13 rfl | exact Nat.le_of_ble_eq_true rfl) rfl ?_
        refine g_iload_n (pc' := 89) C dX4_about_88 rfl rfl ?_
        refine g_iald (pc' := 90) C (j) hxj hcap dX4_about_89 (by first | assumption | exact rfl | exact al13 rfl | exact Nat.le_of_ble_eq_true rfl) rfl rfl rfl ?_
        exact g_iret C hR dX4_about_90 ⟨by simp [mO15, mK15, mV15, th, upI_at, hn, hcl, c1, c2, c3], by simp [mO15, mK15, mV15, th, upI_at, hn, hcl, c1, c2, c3], rfl⟩
      · subst hw
        refine g_tabIn (tgt := 91) C 1 (by rfl) dX4_about_41 (by decide) (by decide) rfl (by decide) ?_
        refine g_aload_n (pc' := 92) C dX4_about_91 rfl rfl ?_
        refine f_X4_23 (pc' := 95) C dX4_about_92 (by first | assumption | exact rfl | exact al13 rfl | exact Nat.le_of_ble_eq_true rfl) rfl ?_
        refine g_iload_n (pc' := 96) C dX4_about_95 rfl rfl ?_
        refine g_iald (pc' := 97) C (j) hxj hcap dX4_about_96 (by first | assumption | exact rfl | exact al13 rfl | exact Nat.le_of_ble_eq_true rfl) rfl rfl rfl ?_
        exact g_iret C hR dX4_about_97 ⟨by simp [mO15, mK15, mV15, th, upI_at, hn, hcl, c1, c2, c3], by simp [mO15, mK15, mV15, th, upI_at, hn, hcl, c1, c2, c3], rfl⟩
      · subst hw
        refine g_tabIn (tgt := 98) C 2 (by rfl) dX4_about_41 (by decide) (by decide) rfl (by decide) ?_
        refine g_aload_n (pc' := 99) C dX4_about_98 rfl rfl ?_
        refine f_X4_26 (pc' := 102) C dX4_about_99 (by first | assumption | exact rfl | exact al13 rfl | exact Nat.le_of_ble_eq_true rfl) rfl ?_
        refine g_iload_n (pc' := 103) C dX4_about_102 rfl rfl ?_
        refine g_iald (pc' := 104) C (j) hxj hcap dX4_about_103 (by first | assumption | exact rfl | exact al13 rfl | exact Nat.le_of_ble_eq_true rfl) rfl rfl rfl ?_
        exact g_iret C hR dX4_about_104 ⟨by simp [mO15, mK15, mV15, th, upI_at, hn, hcl, c1, c2, c3], by simp [mO15, mK15, mV15, th, upI_at, hn, hcl, c1, c2, c3], rfl⟩
      · subst hw
        refine g_tabIn (tgt := 105) C 3 (by rfl) dX4_about_41 (by decide) (by decide) rfl (by decide) ?_
        refine g_aload_n (pc' := 106) C dX4_about_105 rfl rfl ?_
        refine f_X4_29 (pc' := 109) C dX4_about_106 (by first | assumption | exact rfl | exact al13 rfl | exact Nat.le_of_ble_eq_true rfl) rfl ?_
        refine g_iload_n (pc' := 110) C dX4_about_109 rfl rfl ?_
        refine g_iald (pc' := 111) C (j) hxj hcap dX4_about_110 (by first | assumption | exact rfl | exact al13 rfl | exact Nat.le_of_ble_eq_true rfl) rfl rfl rfl ?_
        exact g_iret C hR dX4_about_111 ⟨by simp [mO15, mK15, mV15, th, upI_at, hn, hcl, c1, c2, c3], by simp [mO15, mK15, mV15, th, upI_at, hn, hcl, c1, c2, c3], rfl⟩
      · subst hw
        refine g_tabIn (tgt := 112) C 4 (by rfl) dX4_about_41 (by decide) (by decide) rfl (by decide) ?_
        refine g_aload_n (pc' := 113) C dX4_about_112 rfl rfl ?_
        refine f_X4_32 (pc' := 116) C dX4_about_113 (by first | assumption | exact rfl | exact al13 rfl | exact Nat.le_of_ble_eq_true rfl) rfl ?_
        refine g_iload_n (pc' := 117) C dX4_about_116 rfl rfl ?_
        refine g_iald (pc' := 118) C (j) hxj hcap dX4_about_117 (by first | assumption | exact rfl | exact al13 rfl | exact Nat.le_of_ble_eq_true rfl) rfl rfl rfl ?_
        exact g_iret C hR dX4_about_118 ⟨by simp [mO15, mK15, mV15, th, upI_at, hn, hcl, c1, c2, c3], by simp [mO15, mK15, mV15, th, upI_at, hn, hcl, c1, c2, c3], rfl⟩
      · subst hw
        refine g_tabIn (tgt := 119) C 5 (by rfl) dX4_about_41 (by decide) (by decide) rfl (by decide) ?_
        refine g_aload_n (pc' := 120) C dX4_about_119 rfl rfl ?_
        refine f_X4_35 (pc' := 123) C dX4_about_120 (by first | assumption | exact rfl | exact al13 rfl | exact Nat.le_of_ble_eq_true rfl) rfl ?_
        refine g_iload_n (pc' := 124) C dX4_about_123 rfl rfl ?_
        refine g_iald (pc' := 125) C (j) hxj hcap dX4_about_124 (by first | assumption | exact rfl | exact al13 rfl | exact Nat.le_of_ble_eq_true rfl) rfl rfl rfl ?_
        exact g_iret C hR dX4_about_125 ⟨by simp [mO15, mK15, mV15, th, upI_at, hn, hcl, c1, c2, c3], by simp [mO15, mK15, mV15, th, upI_at, hn, hcl, c1, c2, c3], rfl⟩
      · subst hw
        refine g_tabIn (tgt := 126) C 6 (by rfl) dX4_about_41 (by decide) (by decide) rfl (by decide) ?_
        refine g_aload_n (pc' := 127) C dX4_about_126 rfl rfl ?_
        refine f_X4_38 (pc' := 130) C dX4_about_127 (by first | assumption | exact rfl | exact al13 rfl | exact Nat.le_of_ble_eq_true rfl) rfl ?_
        refine g_iload_n (pc' := 131) C dX4_about_130 rfl rfl ?_
        refine g_iald (pc' := 132) C (j) hxj hcap dX4_about_131 (by first | assumption | exact rfl | exact al13 rfl | exact Nat.le_of_ble_eq_true rfl) rfl rfl rfl ?_
        exact g_iret C hR dX4_about_132 ⟨by simp [mO15, mK15, mV15, th, upI_at, hn, hcl, c1, c2, c3], by simp [mO15, mK15, mV15, th, upI_at, hn, hcl, c1, c2, c3], rfl⟩
      · obtain ⟨h0, h1, h2, h3, h4, h5, h6⟩ := tsw7n hw
        refine g_tabOut (tgt := 133) C dX4_about_41 hw (by decide) ?_
        refine g_aload_n (pc' := 134) C dX4_about_133 rfl rfl ?_
        refine g_iload_n (pc' := 135) C dX4_about_134 rfl rfl ?_
        refine k_X4_128 (pc' := 138) C (m_X4_toCome (I := th I 0) (by rw [th_off (by omega)]; exact hnow) hnw) dX4_about_135 (by first | assumption | exact rfl | exact al13 rfl | exact Nat.le_of_ble_eq_true rfl) ⟨⟨Nat.le_of_ble_eq_true rfl, Nat.le_of_ble_eq_true rfl⟩, rfl, rfl⟩ (Nat.le_of_ble_eq_true rfl) ⟨Nat.zero_le _, Nat.zero_le _⟩ rfl ?_
        exact g_iret C hR dX4_about_138 ⟨by simp [mO15, mK15, mV15, hn, hcl, c1, c2, c3, h0, h1, h2, h3, h4, h5, h6]; rw [← hxj] <;> rfl, by simp [mO15, mK15, th, hn, hcl, c1, c2, c3, h0, h1, h2, h3, h4, h5, h6], rfl⟩
    ·
      have c2 := b2_0.mp c2
      refine g_iconst (v := 2) (pc' := 24) C dX4_about_23 (by decide) rfl ?_
      refine g_goto (tgt := 28) C dX4_about_24 (by decide) ?_
      refine p_X4_71 (pc' := 31) C dX4_about_28 (by first | assumption | exact rfl | exact al13 rfl | exact Nat.le_of_ble_eq_true rfl) rfl ?_
      refine g_aload_n (pc' := 32) C dX4_about_31 rfl rfl ?_
      refine f_X4_71 (pc' := 35) C dX4_about_32 (by first | assumption | exact rfl | exact al13 rfl | exact Nat.le_of_ble_eq_true rfl) rfl ?_
      refine g_if_le (tgt := 40) (pc' := 38) C dX4_about_35 (by decide) rfl (fun c4 => absurd c4 (by first | decide | rw [thv]; decide)) (fun c4 => ?_)
      refine g_iconst (v := 0) (pc' := 39) C dX4_about_38 (by decide) rfl ?_
      exact g_iret C hR dX4_about_39 ⟨by simp [mO15, mK15, mV15, th, upI_at, hn, hcl, c1, c2, c4], by simp [mO15, mK15, mV15, th, upI_at, hn, hcl, c1, c2, c4], rfl⟩
  · have hn : oM x M = true := oM_T hx
    refine k_X4_88 (pc' := 6) C (m_X4_isMatterN X hx) dX4_about_3 (by first | assumption | exact rfl | exact al13 rfl | exact Nat.le_of_ble_eq_true rfl) ⟨⟨Nat.le_of_ble_eq_true rfl, Nat.le_of_ble_eq_true rfl⟩, rfl, rfl⟩ (Nat.le_of_ble_eq_true rfl) ⟨Nat.zero_le _, Nat.zero_le _⟩ rfl ?_
    refine g_if_ne (tgt := 13) (pc' := 9) C dX4_about_6 (by decide) rfl (fun c5 => absurd (by first | decide | rw [thv]; decide) c5) (fun c5 => ?_)
    refine g_iconst (v := 1) (pc' := 10) C dX4_about_9 (by decide) rfl ?_
    refine g_goto (tgt := 28) C dX4_about_10 (by decide) ?_
    refine p_X4_71 (pc' := 31) C dX4_about_28 (by first | assumption | exact rfl | exact al13 rfl | exact Nat.le_of_ble_eq_true rfl) rfl ?_
    refine g_aload_n (pc' := 32) C dX4_about_31 rfl rfl ?_
    refine f_X4_71 (pc' := 35) C dX4_about_32 (by first | assumption | exact rfl | exact al13 rfl | exact Nat.le_of_ble_eq_true rfl) rfl ?_
    refine g_if_le (tgt := 40) (pc' := 38) C dX4_about_35 (by decide) rfl (fun c6 => absurd c6 (by first | decide | rw [thv]; decide)) (fun c6 => ?_)
    refine g_iconst (v := 0) (pc' := 39) C dX4_about_38 (by decide) rfl ?_
    exact g_iret C hR dX4_about_39 ⟨by simp [mO15, mK15, mV15, th, upI_at, hn, c5, c6], by simp [mO15, mK15, mV15, th, upI_at, hn, c5, c6], rfl⟩
set_option maxRecDepth 20000 in
theorem m_X4_hearing {l : Launch} {g : wG} {z : wZ} {I : wI} {P : wP} {O : wO} {M N : Nat} {x y : Int32} (X : MI M N I) : RT l yX4_hearing cX4_hearing 3 ((some .int)) { frames := 2, cells := 0, slots := 0, locals := 43 } g z [.ref (g.2.2 12 0), .int x, .int y] I P O (dp (some (.int (mO16 I N x y).2)) ((mO16 I N x y).1) (P)) := by
  refine RT.of (own := RX4) rfl (by decide +kernel) (Nat.le_of_ble_eq_true rfl) rfl (fun K C hl hg hR => ?_)
  subst hl
  subst hg
  refine g_aload_n (pc' := 1) C dX4_hearing_0 rfl rfl ?_
  refine g_aload_n (pc' := 2) C dX4_hearing_1 rfl rfl ?_
  refine g_iload_n (pc' := 3) C dX4_hearing_2 rfl rfl ?_
  rcases in_of x N (by have := X.1; have := X.2.1; omega) with ⟨j, hj, hxj⟩ | hx
  · have hn : oM x N = false := oM_F hj hxj (by have := X.1; have := X.2.1; omega)
    have hcl : x.toNatClampNeg = j := by rw [hxj]; exact nI_clamp (by have := X.1; have := X.2.1; omega)
    have hcap : j < 24 := by have := X.1; have := X.2.1; omega
    refine k_X4_121 (pc' := 6) C (m_X4_isHearingS X hxj hj) dX4_hearing_3 (by first | assumption | exact rfl | exact al13 rfl | exact Nat.le_of_ble_eq_true rfl) ⟨⟨Nat.le_of_ble_eq_true rfl, Nat.le_of_ble_eq_true rfl⟩, rfl, rfl⟩ (Nat.le_of_ble_eq_true rfl) ⟨Nat.zero_le _, Nat.zero_le _⟩ rfl ?_
    refine g_if_ne (tgt := 13) (pc' := 9) C dX4_hearing_6 (by decide) rfl (fun c1 => ?_) (fun c1 => absurd c1 (by first | decide | rw [thv]; decide))
    refine g_iload_n (pc' := 14) C dX4_hearing_13 rfl rfl ?_
    refine g_iconst (v := 0) (pc' := 15) C dX4_hearing_14 (by decide) rfl ?_
    refine g_bipush (v := 7) (pc' := 17) C dX4_hearing_15 (by decide) rfl ?_
    refine k_X4_78 (pc' := 20) C (m_X4_in) dX4_hearing_17 ⟨⟨Nat.le_of_ble_eq_true rfl, Nat.le_of_ble_eq_true rfl⟩, rfl, rfl⟩ (Nat.le_of_ble_eq_true rfl) ⟨Nat.zero_le _, Nat.zero_le _⟩ rfl ?_
    refine g_if_ne (tgt := 27) (pc' := 23) C dX4_hearing_20 (by decide) rfl (fun c2 => ?_) (fun c2 => ?_)
    ·
      have c2 := b2_1.mp c2
      refine g_iconst (v := 0) (pc' := 28) C dX4_hearing_27 (by decide) rfl ?_
      refine p_X4_71 (pc' := 31) C dX4_hearing_28 (by first | assumption | exact rfl | exact al13 rfl | exact Nat.le_of_ble_eq_true rfl) rfl ?_
      refine g_aload_n (pc' := 32) C dX4_hearing_31 rfl rfl ?_
      refine f_X4_71 (pc' := 35) C dX4_hearing_32 (by first | assumption | exact rfl | exact al13 rfl | exact Nat.le_of_ble_eq_true rfl) rfl ?_
      refine g_if_le (tgt := 40) (pc' := 38) C dX4_hearing_35 (by decide) rfl (fun c3 => ?_) (fun c3 => absurd (by first | decide | rw [thv]; decide) c3)
      refine g_iload_n (pc' := 41) C dX4_hearing_40 rfl rfl ?_
      rcases tsw7 y with hw | hw | hw | hw | hw | hw | hw | hw
      · subst hw
        refine g_tabIn (tgt := 84) C 0 (by rfl) dX4_hearing_41 (by decide) (by decide) rfl (by decide) ?_
        refine g_aload_n (pc' := 85) C dX4_hearing_84 rfl rfl ?_
        refine f_X4_41 (pc' := 88) C dX4_hearing_85 (by first | assumption | exact rfl | exact al13 rfl | exact Nat.le_of_ble_eq_true rfl) rfl ?_
        refine g_iload_n (pc' := 89) C dX4_hearing_88 rfl rfl ?_
        refine g_iald (pc' := 90) C (j) hxj hcap dX4_hearing_89 (by first | assumption | exact rfl | exact al13 rfl | exact Nat.le_of_ble_eq_true rfl) rfl rfl rfl ?_
        exact g_iret C hR dX4_hearing_90 ⟨by simp [mO16, mK15, mV16, th, upI_at, hn, hcl, c1, c2, c3], by simp [mO16, mK15, mV16, th, upI_at, hn, hcl, c1, c2, c3], rfl⟩
      · subst hw
        refine g_tabIn (tgt := 91) C 1 (by rfl) dX4_hearing_41 (by decide) (by decide) rfl (by decide) ?_
        refine g_aload_n (pc' := 92) C dX4_hearing_91 rfl rfl ?_
        refine f_X4_44 (pc' := 95) C dX4_hearing_92 (by first | assumption | exact rfl | exact al13 rfl | exact Nat.le_of_ble_eq_true rfl) rfl ?_
        refine g_iload_n (pc' := 96) C dX4_hearing_95 rfl rfl ?_
        refine g_iald (pc' := 97) C (j) hxj hcap dX4_hearing_96 (by first | assumption | exact rfl | exact al13 rfl | exact Nat.le_of_ble_eq_true rfl) rfl rfl rfl ?_
        exact g_iret C hR dX4_hearing_97 ⟨by simp [mO16, mK15, mV16, th, upI_at, hn, hcl, c1, c2, c3], by simp [mO16, mK15, mV16, th, upI_at, hn, hcl, c1, c2, c3], rfl⟩
      · subst hw
        refine g_tabIn (tgt := 98) C 2 (by rfl) dX4_hearing_41 (by decide) (by decide) rfl (by decide) ?_
        refine g_aload_n (pc' := 99) C dX4_hearing_98 rfl rfl ?_
        refine f_X4_47 (pc' := 102) C dX4_hearing_99 (by first | assumption | exact rfl | exact al13 rfl | exact Nat.le_of_ble_eq_true rfl) rfl ?_
        refine g_iload_n (pc' := 103) C dX4_hearing_102 rfl rfl ?_
        refine g_iald (pc' := 104) C (j) hxj hcap dX4_hearing_103 (by first | assumption | exact rfl | exact al13 rfl | exact Nat.le_of_ble_eq_true rfl) rfl rfl rfl ?_
        exact g_iret C hR dX4_hearing_104 ⟨by simp [mO16, mK15, mV16, th, upI_at, hn, hcl, c1, c2, c3], by simp [mO16, mK15, mV16, th, upI_at, hn, hcl, c1, c2, c3], rfl⟩
      · subst hw
        refine g_tabIn (tgt := 105) C 3 (by rfl) dX4_hearing_41 (by decide) (by decide) rfl (by decide) ?_
        refine g_aload_n (pc' := 106) C dX4_hearing_105 rfl rfl ?_
        refine f_X4_50 (pc' := 109) C dX4_hearing_106 (by first | assumption | exact rfl | exact al13 rfl | exact Nat.le_of_ble_eq_true rfl) rfl ?_
        refine g_iload_n (pc' := 110) C dX4_hearing_109 rfl rfl ?_
        refine g_iald (pc' := 111) C (j) hxj hcap dX4_hearing_110 (by first | assumption | exact rfl | exact al13 rfl | exact Nat.le_of_ble_eq_true rfl) rfl rfl rfl ?_
        exact g_iret C hR dX4_hearing_111 ⟨by simp [mO16, mK15, mV16, th, upI_at, hn, hcl, c1, c2, c3], by simp [mO16, mK15, mV16, th, upI_at, hn, hcl, c1, c2, c3], rfl⟩
      · subst hw
        refine g_tabIn (tgt := 112) C 4 (by rfl) dX4_hearing_41 (by decide) (by decide) rfl (by decide) ?_
        refine g_aload_n (pc' := 113) C dX4_hearing_112 rfl rfl ?_
        refine f_X4_53 (pc' := 116) C dX4_hearing_113 (by first | assumption | exact rfl | exact al13 rfl | exact Nat.le_of_ble_eq_true rfl) rfl ?_
        refine g_iload_n (pc' := 117) C dX4_hearing_116 rfl rfl ?_
        refine g_iald (pc' := 118) C (j) hxj hcap dX4_hearing_117 (by first | assumption | exact rfl | exact al13 rfl | exact Nat.le_of_ble_eq_true rfl) rfl rfl rfl ?_
        exact g_iret C hR dX4_hearing_118 ⟨by simp [mO16, mK15, mV16, th, upI_at, hn, hcl, c1, c2, c3], by simp [mO16, mK15, mV16, th, upI_at, hn, hcl, c1, c2, c3], rfl⟩
      · subst hw
        refine g_tabIn (tgt := 119) C 5 (by rfl) dX4_hearing_41 (by decide) (by decide) rfl (by decide) ?_
        refine g_aload_n (pc' := 120) C dX4_hearing_119 rfl rfl ?_
        refine f_X4_56 (pc' := 123) C dX4_hearing_120 (by first | assumption | exact rfl | exact al13 rfl | exact Nat.le_of_ble_eq_true rfl) rfl ?_
        refine g_iload_n (pc' := 124) C dX4_hearing_123 rfl rfl ?_
        refine g_iald (pc' := 125) C (j) hxj hcap dX4_hearing_124 (by first | assumption | exact rfl | exact al13 rfl | exact Nat.le_of_ble_eq_true rfl) rfl rfl rfl ?_
        exact g_iret C hR dX4_hearing_125 ⟨by simp [mO16, mK15, mV16, th, upI_at, hn, hcl, c1, c2, c3], by simp [mO16, mK15, mV16, th, upI_at, hn, hcl, c1, c2, c3], rfl⟩
      · subst hw
        refine g_tabIn (tgt := 126) C 6 (by rfl) dX4_hearing_41 (by decide) (by decide) rfl (by decide) ?_
        refine g_aload_n (pc' := 127) C dX4_hearing_126 rfl rfl ?_
        refine f_X4_59 (pc' := 130) C dX4_hearing_127 (by first | assumption | exact rfl | exact al13 rfl | exact Nat.le_of_ble_eq_true rfl) rfl ?_
        refine g_iload_n (pc' := 131) C dX4_hearing_130 rfl rfl ?_
        refine g_iald (pc' := 132) C (j) hxj hcap dX4_hearing_131 (by first | assumption | exact rfl | exact al13 rfl | exact Nat.le_of_ble_eq_true rfl) rfl rfl rfl ?_
        refine g_iconst (v := 1) (pc' := 133) C dX4_hearing_132 (by decide) rfl ?_
        refine g_iand (pc' := 134) C dX4_hearing_133 rfl ?_
        refine g_aload_n (pc' := 135) C dX4_hearing_134 rfl rfl ?_
        refine f_X4_59 (pc' := 138) C dX4_hearing_135 (by first | assumption | exact rfl | exact al13 rfl | exact Nat.le_of_ble_eq_true rfl) rfl ?_
        refine g_iload_n (pc' := 139) C dX4_hearing_138 rfl rfl ?_
        refine g_iald (pc' := 140) C (j) hxj hcap dX4_hearing_139 (by first | assumption | exact rfl | exact al13 rfl | exact Nat.le_of_ble_eq_true rfl) rfl rfl rfl ?_
        refine g_iconst (v := 1) (pc' := 141) C dX4_hearing_140 (by decide) rfl ?_
        refine g_ishr (pc' := 142) C dX4_hearing_141 rfl ?_
        refine g_iadd (pc' := 143) C dX4_hearing_142 rfl ?_
        exact g_iret C hR dX4_hearing_143 ⟨by simp [mO16, mK15, mV16, th, upI_at, hn, hcl, c1, c2, c3], by simp [mO16, mK15, mV16, th, upI_at, hn, hcl, c1, c2, c3], rfl⟩
      · obtain ⟨h0, h1, h2, h3, h4, h5, h6⟩ := tsw7n hw
        refine g_tabOut (tgt := 144) C dX4_hearing_41 hw (by decide) ?_
        have hc0 : 4 * j < 96 := by omega
        have hc1 : 4 * j + 1 < 96 := by omega
        have hc2 : 4 * j + 2 < 96 := by omega
        have hc3 : 4 * j + 3 < 96 := by omega
        refine g_aload_n (pc' := 145) C dX4_hearing_144 rfl rfl ?_
        refine f_X4_62 (pc' := 148) C dX4_hearing_145 (by first | assumption | exact rfl | exact al13 rfl | exact Nat.le_of_ble_eq_true rfl) rfl ?_
        refine g_iconst (v := 4) (pc' := 149) C dX4_hearing_148 (by decide) rfl ?_
        refine g_iload_n (pc' := 150) C dX4_hearing_149 rfl rfl ?_
        refine g_imul (pc' := 151) C dX4_hearing_150 rfl ?_
        refine g_iald (pc' := 152) C (4 * j) (by rw [hxj]; exact pk_mul 4 j) hc0 dX4_hearing_151 (by first | assumption | exact rfl | exact al13 rfl | exact Nat.le_of_ble_eq_true rfl) rfl rfl rfl ?_
        refine g_aload_n (pc' := 153) C dX4_hearing_152 rfl rfl ?_
        refine f_X4_62 (pc' := 156) C dX4_hearing_153 (by first | assumption | exact rfl | exact al13 rfl | exact Nat.le_of_ble_eq_true rfl) rfl ?_
        refine g_iconst (v := 4) (pc' := 157) C dX4_hearing_156 (by decide) rfl ?_
        refine g_iload_n (pc' := 158) C dX4_hearing_157 rfl rfl ?_
        refine g_imul (pc' := 159) C dX4_hearing_158 rfl ?_
        refine g_iconst (v := 1) (pc' := 160) C dX4_hearing_159 (by decide) rfl ?_
        refine g_iadd (pc' := 161) C dX4_hearing_160 rfl ?_
        refine g_iald (pc' := 162) C (4 * j + 1) (by rw [hxj]; exact ix4 j 1) hc1 dX4_hearing_161 (by first | assumption | exact rfl | exact al13 rfl | exact Nat.le_of_ble_eq_true rfl) rfl rfl rfl ?_
        refine g_iadd (pc' := 163) C dX4_hearing_162 rfl ?_
        refine g_aload_n (pc' := 164) C dX4_hearing_163 rfl rfl ?_
        refine f_X4_62 (pc' := 167) C dX4_hearing_164 (by first | assumption | exact rfl | exact al13 rfl | exact Nat.le_of_ble_eq_true rfl) rfl ?_
        refine g_iconst (v := 4) (pc' := 168) C dX4_hearing_167 (by decide) rfl ?_
        refine g_iload_n (pc' := 169) C dX4_hearing_168 rfl rfl ?_
        refine g_imul (pc' := 170) C dX4_hearing_169 rfl ?_
        refine g_iconst (v := 2) (pc' := 171) C dX4_hearing_170 (by decide) rfl ?_
        refine g_iadd (pc' := 172) C dX4_hearing_171 rfl ?_
        refine g_iald (pc' := 173) C (4 * j + 2) (by rw [hxj]; exact ix4 j 2) hc2 dX4_hearing_172 (by first | assumption | exact rfl | exact al13 rfl | exact Nat.le_of_ble_eq_true rfl) rfl rfl rfl ?_
        refine g_iadd (pc' := 174) C dX4_hearing_173 rfl ?_
        refine g_aload_n (pc' := 175) C dX4_hearing_174 rfl rfl ?_
        refine f_X4_62 (pc' := 178) C dX4_hearing_175 (by first | assumption | exact rfl | exact al13 rfl | exact Nat.le_of_ble_eq_true rfl) rfl ?_
        refine g_iconst (v := 4) (pc' := 179) C dX4_hearing_178 (by decide) rfl ?_
        refine g_iload_n (pc' := 180) C dX4_hearing_179 rfl rfl ?_
        refine g_imul (pc' := 181) C dX4_hearing_180 rfl ?_
        refine g_iconst (v := 3) (pc' := 182) C dX4_hearing_181 (by decide) rfl ?_
        refine g_iadd (pc' := 183) C dX4_hearing_182 rfl ?_
        refine g_iald (pc' := 184) C (4 * j + 3) (by rw [hxj]; exact ix4 j 3) hc3 dX4_hearing_183 (by first | assumption | exact rfl | exact al13 rfl | exact Nat.le_of_ble_eq_true rfl) rfl rfl rfl ?_
        refine g_iadd (pc' := 185) C dX4_hearing_184 rfl ?_
        exact g_iret C hR dX4_hearing_185 ⟨by simp [mO16, mK15, mV16, th, upI_at, hn, hcl, c1, c2, c3, h0, h1, h2, h3, h4, h5, h6], by simp [mO16, mK15, mV16, th, upI_at, hn, hcl, c1, c2, c3, h0, h1, h2, h3, h4, h5, h6], rfl⟩
    ·
      have c2 := b2_0.mp c2
      refine g_iconst (v := 2) (pc' := 24) C dX4_hearing_23 (by decide) rfl ?_
      refine g_goto (tgt := 28) C dX4_hearing_24 (by decide) ?_
      refine p_X4_71 (pc' := 31) C dX4_hearing_28 (by first | assumption | exact rfl | exact al13 rfl | exact Nat.le_of_ble_eq_true rfl) rfl ?_
      refine g_aload_n (pc' := 32) C dX4_hearing_31 rfl rfl ?_
      refine f_X4_71 (pc' := 35) C dX4_hearing_32 (by first | assumption | exact rfl | exact al13 rfl | exact Nat.le_of_ble_eq_true rfl) rfl ?_
      refine g_if_le (tgt := 40) (pc' := 38) C dX4_hearing_35 (by decide) rfl (fun c4 => absurd c4 (by first | decide | rw [thv]; decide)) (fun c4 => ?_)
      refine g_iconst (v := 0) (pc' := 39) C dX4_hearing_38 (by decide) rfl ?_
      exact g_iret C hR dX4_hearing_39 ⟨by simp [mO16, mK15, mV16, th, upI_at, hn, hcl, c1, c2, c4], by simp [mO16, mK15, mV16, th, upI_at, hn, hcl, c1, c2, c4], rfl⟩
  · have hn : oM x N = true := oM_T hx
    refine k_X4_121 (pc' := 6) C (m_X4_isHearingN X hx) dX4_hearing_3 (by first | assumption | exact rfl | exact al13 rfl | exact Nat.le_of_ble_eq_true rfl) ⟨⟨Nat.le_of_ble_eq_true rfl, Nat.le_of_ble_eq_true rfl⟩, rfl, rfl⟩ (Nat.le_of_ble_eq_true rfl) ⟨Nat.zero_le _, Nat.zero_le _⟩ rfl ?_
    refine g_if_ne (tgt := 13) (pc' := 9) C dX4_hearing_6 (by decide) rfl (fun c5 => absurd (by first | decide | rw [thv]; decide) c5) (fun c5 => ?_)
    refine g_iconst (v := 1) (pc' := 10) C dX4_hearing_9 (by decide) rfl ?_
    refine g_goto (tgt := 28) C dX4_hearing_10 (by decide) ?_
    refine p_X4_71 (pc' := 31) C dX4_hearing_28 (by first | assumption | exact rfl | exact al13 rfl | exact Nat.le_of_ble_eq_true rfl) rfl ?_
    refine g_aload_n (pc' := 32) C dX4_hearing_31 rfl rfl ?_
    refine f_X4_71 (pc' := 35) C dX4_hearing_32 (by first | assumption | exact rfl | exact al13 rfl | exact Nat.le_of_ble_eq_true rfl) rfl ?_
    refine g_if_le (tgt := 40) (pc' := 38) C dX4_hearing_35 (by decide) rfl (fun c6 => absurd c6 (by first | decide | rw [thv]; decide)) (fun c6 => ?_)
    refine g_iconst (v := 0) (pc' := 39) C dX4_hearing_38 (by decide) rfl ?_
    exact g_iret C hR dX4_hearing_39 ⟨by simp [mO16, mK15, mV16, th, upI_at, hn, c5, c6], by simp [mO16, mK15, mV16, th, upI_at, hn, c5, c6], rfl⟩
set_option maxRecDepth 20000 in
theorem m_X4_paidBy {l : Launch} {g : wG} {z : wZ} {I : wI} {P : wP} {O : wO} {M N : Nat} {x y : Int32} (X : MI M N I) : RT l yX4_paidBy cX4_paidBy 3 ((some .int)) { frames := 1, cells := 0, slots := 0, locals := 22 } g z [.ref (g.2.2 12 0), .int x, .int y] I P O (dp (some (.int (mO17 I x y).2)) ((mO17 I x y).1) (P)) := by
  refine RT.of (own := RX4) rfl (by decide +kernel) (Nat.le_of_ble_eq_true rfl) rfl (fun K C hl hg hR => ?_)
  subst hl
  subst hg
  refine g_aload_n (pc' := 1) C dX4_paidBy_0 rfl rfl ?_
  refine g_iload_n (pc' := 2) C dX4_paidBy_1 rfl rfl ?_
  refine g_iconst (v := 0) (pc' := 3) C dX4_paidBy_2 (by decide) rfl ?_
  refine g_iconst (v := 3) (pc' := 4) C dX4_paidBy_3 (by decide) rfl ?_
  refine k_X4_78 (pc' := 7) C (m_X4_in) dX4_paidBy_4 ⟨⟨Nat.le_of_ble_eq_true rfl, Nat.le_of_ble_eq_true rfl⟩, rfl, rfl⟩ (Nat.le_of_ble_eq_true rfl) ⟨Nat.zero_le _, Nat.zero_le _⟩ rfl ?_
  refine g_if_eq (tgt := 25) (pc' := 10) C dX4_paidBy_7 (by decide) rfl (fun c1 => ?_) (fun c1 => ?_)
  ·
    have c1 := b2_0.mp c1
    refine g_iconst (v := 1) (pc' := 26) C dX4_paidBy_25 (by decide) rfl ?_
    refine p_X4_71 (pc' := 29) C dX4_paidBy_26 (by first | assumption | exact rfl | exact al13 rfl | exact Nat.le_of_ble_eq_true rfl) rfl ?_
    refine g_aload_n (pc' := 30) C dX4_paidBy_29 rfl rfl ?_
    refine f_X4_71 (pc' := 33) C dX4_paidBy_30 (by first | assumption | exact rfl | exact al13 rfl | exact Nat.le_of_ble_eq_true rfl) rfl ?_
    refine g_if_le (tgt := 38) (pc' := 36) C dX4_paidBy_33 (by decide) rfl (fun c2 => absurd c2 (by first | decide | rw [thv]; decide)) (fun c2 => ?_)
    refine g_iconst (v := 0) (pc' := 37) C dX4_paidBy_36 (by decide) rfl ?_
    exact g_iret C hR dX4_paidBy_37 ⟨by simp [mO17, mK17, th, upI_at, c1, c2], by simp [mO17, mK17, th, upI_at, c1, c2], rfl⟩
  ·
    have c1 := b2_1.mp c1
    refine g_iload_n (pc' := 11) C dX4_paidBy_10 rfl rfl ?_
    refine g_iconst (v := 0) (pc' := 12) C dX4_paidBy_11 (by decide) rfl ?_
    refine g_sipush (v := 1003) (pc' := 15) C dX4_paidBy_12 (by decide) rfl ?_
    refine k_X4_78 (pc' := 18) C (m_X4_in) dX4_paidBy_15 ⟨⟨Nat.le_of_ble_eq_true rfl, Nat.le_of_ble_eq_true rfl⟩, rfl, rfl⟩ (Nat.le_of_ble_eq_true rfl) ⟨Nat.zero_le _, Nat.zero_le _⟩ rfl ?_
    refine g_if_eq (tgt := 25) (pc' := 21) C dX4_paidBy_18 (by decide) rfl (fun c3 => ?_) (fun c3 => ?_)
    ·
      have c3 := b2_0.mp c3
      refine g_iconst (v := 1) (pc' := 26) C dX4_paidBy_25 (by decide) rfl ?_
      refine p_X4_71 (pc' := 29) C dX4_paidBy_26 (by first | assumption | exact rfl | exact al13 rfl | exact Nat.le_of_ble_eq_true rfl) rfl ?_
      refine g_aload_n (pc' := 30) C dX4_paidBy_29 rfl rfl ?_
      refine f_X4_71 (pc' := 33) C dX4_paidBy_30 (by first | assumption | exact rfl | exact al13 rfl | exact Nat.le_of_ble_eq_true rfl) rfl ?_
      refine g_if_le (tgt := 38) (pc' := 36) C dX4_paidBy_33 (by decide) rfl (fun c4 => absurd c4 (by first | decide | rw [thv]; decide)) (fun c4 => ?_)
      refine g_iconst (v := 0) (pc' := 37) C dX4_paidBy_36 (by decide) rfl ?_
      exact g_iret C hR dX4_paidBy_37 ⟨by simp [mO17, mK17, th, upI_at, c1, c3, c4], by simp [mO17, mK17, th, upI_at, c1, c3, c4], rfl⟩
    ·
      have c3 := b2_1.mp c3
      refine g_iconst (v := 0) (pc' := 22) C dX4_paidBy_21 (by decide) rfl ?_
      refine g_goto (tgt := 26) C dX4_paidBy_22 (by decide) ?_
      refine p_X4_71 (pc' := 29) C dX4_paidBy_26 (by first | assumption | exact rfl | exact al13 rfl | exact Nat.le_of_ble_eq_true rfl) rfl ?_
      refine g_aload_n (pc' := 30) C dX4_paidBy_29 rfl rfl ?_
      refine f_X4_71 (pc' := 33) C dX4_paidBy_30 (by first | assumption | exact rfl | exact al13 rfl | exact Nat.le_of_ble_eq_true rfl) rfl ?_
      refine g_if_le (tgt := 38) (pc' := 36) C dX4_paidBy_33 (by decide) rfl (fun c5 => ?_) (fun c5 => absurd (by first | decide | rw [thv]; decide) c5)
      refine g_iload_n (pc' := 39) C dX4_paidBy_38 rfl rfl ?_
      refine g_aload_n (pc' := 40) C dX4_paidBy_39 rfl rfl ?_
      refine f_X4_85 (pc' := 43) C dX4_paidBy_40 (by first | assumption | exact rfl | exact al13 rfl | exact Nat.le_of_ble_eq_true rfl) rfl ?_
      refine g_icmp_le (tgt := 63) (pc' := 46) C dX4_paidBy_43 (by decide) rfl (fun c6 => ?_) (fun c6 => ?_)
      ·
        try simp only [up12_13, up12_1] at c6
        refine g_iconst (v := (-1)) (pc' := 64) C dX4_paidBy_63 (by decide) rfl ?_
        exact g_iret C hR dX4_paidBy_64 ⟨by simp [mO17, mK17, th, upI_at, c1, c3, c5, c6], by simp [mO17, mK17, th, upI_at, c1, c3, c5, c6], rfl⟩
      ·
        try simp only [up12_13, up12_1] at c6
        obtain ⟨j, hj4, hxj⟩ := inR_of (x := x) (n := 3) (by decide) (by assumption)
        obtain ⟨t, ht4, hyt⟩ := inR_of (x := y) (n := 1003) (by decide) (by assumption)
        have hcl : x.toNatClampNeg = j := by rw [hxj]; exact nI_clamp (by omega)
        have hcl2 : y.toNatClampNeg = t := by rw [hyt]; exact nI_clamp (by omega)
        have hq : 1004 * j + t < 4016 := by omega
        refine g_aload_n (pc' := 47) C dX4_paidBy_46 rfl rfl ?_
        refine f_X4_65 (pc' := 50) C dX4_paidBy_47 (by first | assumption | exact rfl | exact al13 rfl | exact Nat.le_of_ble_eq_true rfl) rfl ?_
        refine g_sipush (v := 1004) (pc' := 53) C dX4_paidBy_50 (by decide) rfl ?_
        refine g_iload_n (pc' := 54) C dX4_paidBy_53 rfl rfl ?_
        refine g_imul (pc' := 55) C dX4_paidBy_54 rfl ?_
        refine g_iload_n (pc' := 56) C dX4_paidBy_55 rfl rfl ?_
        refine g_iadd (pc' := 57) C dX4_paidBy_56 rfl ?_
        refine g_iald (pc' := 58) C (1004 * j + t) (by rw [hxj, hyt, ← nI_add, ← pk_mul]; rfl) hq dX4_paidBy_57 (by first | assumption | exact rfl | exact al13 rfl | exact Nat.le_of_ble_eq_true rfl) rfl rfl rfl ?_
        refine g_iconst (v := 1) (pc' := 59) C dX4_paidBy_58 (by decide) rfl ?_
        refine g_isub (pc' := 60) C dX4_paidBy_59 rfl ?_
        refine g_goto (tgt := 64) C dX4_paidBy_60 (by decide) ?_
        exact g_iret C hR dX4_paidBy_64 ⟨by simp [mO17, mK17, th, upI_at, c1, c3, c5, c6, hcl, hcl2], by simp [mO17, mK17, th, upI_at, c1, c3, c5, c6, hcl, hcl2], rfl⟩
end WModel5
