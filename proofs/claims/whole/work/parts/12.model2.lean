section WModel2
theorem nI_nm1 {s : Nat} (h : s < 2 ^ 31) : ¬ nI s = -1 := fun e => by
  have h1 := congrArg Int32.toInt e
  rw [nI_toInt h, show (-1 : Int32).toInt = -1 from by decide] at h1
  omega
theorem ix4 (j k : Nat) : (4 : Int32) * nI j + nI k = nI (4 * j + k) := by rw [← nI_add, ← pk_mul]; rfl
theorem ixA (s f k : Nat) : (1004 : Int32) * nI s + nI f + nI k = nI (1004 * s + f + k) := by rw [← nI_add, ← nI_add, ← pk_mul]; rfl
def mAt (I : wI) (j k : Nat) : Nat := 1004 * msp I j + mfr I j + k
def mLvS (j m k : Nat) (I : wI) : wI := if I 13 18 j - I 12 0 1 < 8 then upI (upI I 13 22 (mAt I j k) (nI m + 1)) 13 23 (mAt I j k) (upI I 13 22 (mAt I j k) (nI m + 1) 13 21 (4 * j + k)) else upI I 13 11 m (I 13 11 m + I 13 21 (4 * j + k))
def mLvL (j m : Nat) : Nat → Nat → wI → wI
  | 0, _, I => I
  | n + 1, k, I => mLvL j m n (k + 1) (mLvS j m k I)
def mLv (j : Nat) (I : wI) : wI := if I 13 17 j = -1 ∨ I 13 18 j ≤ I 12 0 1 then I else mLvL j (mm I j) (mh I j) 0 I
def mCmS (j m k : Nat) (I : wI) : wI :=
  let q := mAt I j k
  let p := mpy I q
  let c := if p = 0 then I 13 3 (msp I j) else if p = m + 1 then 0 else I 13 23 q / 2
  let I1 := if p = 0 ∨ p = m + 1 then I else upI I 13 11 (p - 1) (I 13 11 (p - 1) + I 13 23 q / 2)
  let I2 := upI (upI I1 13 22 q 0) 13 23 q 0
  let I3 := upI I2 13 21 (4 * j + k) c
  upI I3 13 11 m (I3 13 11 m - c)
def mCmL (j m : Nat) : Nat → Nat → wI → wI
  | 0, _, I => I
  | n + 1, k, I => mCmL j m n (k + 1) (mCmS j m k I)
def mC0S (j m k : Nat) (I : wI) : wI := upI (upI I 13 21 (4 * j + k) 0) 13 11 m (upI I 13 21 (4 * j + k) 0 13 11 m - 0)
def mC0L (j m : Nat) : Nat → Nat → wI → wI
  | 0, _, I => I
  | n + 1, k, I => mC0L j m n (k + 1) (mC0S j m k I)
def mCm (j : Nat) (I : wI) : wI := if I 13 17 j = -1 then mC0L j (mm I j) (mh I j) 0 I else mCmL j (mm I j) (mh I j) 0 I
theorem msp_of {I I' : wI} {j : Nat} (h : I' 13 17 j = I 13 17 j) : msp I' j = msp I j := by unfold msp; rw [h]
theorem mfr_of {I I' : wI} {j : Nat} (h : I' 13 18 j = I 13 18 j) : mfr I' j = mfr I j := by unfold mfr; rw [h]
def tcI (I : wI) (x : Int32) (k : Nat) : Nat → Nat → Int32 → Int32
  | 0, _, y => y
  | n + 1, t, y => tcI I x k n (t + 1) (y + if I 13 22 (1004 * k + t) = x + 1 then 1 else 0)
def tcO (I : wI) (x : Int32) (nw : Nat) : Nat → Nat → Int32 → Int32
  | 0, _, y => y
  | n + 1, k, y => tcO I x nw n (k + 1) (tcI I x k (1003 - nw) (nw + 1) y)
def eAS (m : Nat) (I : wI) : wI := upI I 13 12 m (I 13 12 m + if I 13 6 m = 3 then 1 else 0)
def eAL : Nat → Nat → wI → wI
  | 0, _, I => I
  | n + 1, m, I => eAL n (m + 1) (eAS m I)
def eB (I : wI) (h : Nat) : Bool := mOp I (mm I h) && decide (I 13 20 h = 3)
def eBS (h : Nat) (s : wI × Int32) : wI × Int32 := if s.1 13 14 h = 0 ∧ s.1 13 18 h + s.1 13 19 h = s.1 12 0 1 then (if eB s.1 h = true then (upI (upI s.1 13 14 h 1) 13 6 (mm s.1 h) 1, s.2 + 1) else (upI (upI s.1 13 14 h 2) 13 6 (mm s.1 h) (s.1 13 6 (mm s.1 h)), s.2 + 0)) else s
def eBL : Nat → Nat → wI × Int32 → wI × Int32
  | 0, _, s => s
  | n + 1, h, s => eBL n (h + 1) (eBS h s)
def eCS (m : Nat) (I : wI) : wI := upI I 13 6 m (if mOp I m = true ∧ ¬ I 12 0 1 < I 13 12 m then 5 else I 13 6 m)
def eCL : Nat → Nat → wI → wI
  | 0, _, I => I
  | n + 1, m, I => eCL n (m + 1) (eCS m I)
def eN (I : wI) : wI := upI I 12 0 1 (I 12 0 1 + 1)
theorem MI.eA {M N : Nat} {I : wI} (X : MI M N I) {m : Nat} : MI M N (eAS m I) := X.up _ (by omega)
theorem MI.eAL' {M N : Nat} : ∀ (n m : Nat) (I : wI), MI M N I → MI M N (eAL n m I)
  | 0, _, _, X => X
  | n + 1, m, I, X => MI.eAL' n (m + 1) _ X.eA
theorem MI.eBs {M N : Nat} {s : wI × Int32} (X : MI M N s.1) {h : Nat} : MI M N (eBS h s).1 := by
  unfold eBS
  split
  · split
    · exact (X.up _ (by omega)).up _ (by omega)
    · exact (X.up _ (by omega)).up _ (by omega)
  · exact X
theorem MI.eBL' {M N : Nat} : ∀ (n m : Nat) (s : wI × Int32), MI M N s.1 → MI M N (eBL n m s).1
  | 0, _, _, X => X
  | n + 1, m, s, X => MI.eBL' n (m + 1) _ X.eBs
theorem MI.eC {M N : Nat} {I : wI} (X : MI M N I) {m : Nat} : MI M N (eCS m I) := X.up _ (by omega)
set_option maxRecDepth 20000 in
theorem l_X4_leaves {K : wK} {z : wZ} {P : wP} {O : wO} {post : Option Value → wI → wP → Prop} {M N j m hr : Nat} {x x2 : Int32} (C : Cx K cX4_leaves RX4 5 (none) { frames := 0, cells := 0, slots := 0, locals := 0 } z) (hR : Rx K z O post) (hx : x = nI j) (hj24 : j < 24) (hm2 : x2 = nI m) (hmM : m < M) (hm12 : m < 12) (hr4 : hr ≤ 4) : ∀ (n k : Nat) (x3 : Int32) (I : wI), MI M N I → (I 13 17 j = nI (msp I j) ∧ msp I j < 4) → (I 13 18 j = nI (mfr I j) ∧ mfr I j ≤ 999) → I 13 19 j = nI hr → ¬ I 13 18 j ≤ I 12 0 1 → x3 = nI k → k + n = hr → post none (mLvL j m n k I) P → G K z I P O 0 0 9 [(0, .ref ((Kg K).2.2 12 0)), (1, .int x), (2, .int x2), (3, .int x3)] [] := by
  intro n
  induction n with
  | zero =>
    intro k x3 I X hs0 hf0 hr hgt ex3 hk hpost
    refine g_iload_n (pc' := 10) C dX4_leaves_9 rfl rfl ?_
    refine g_aload_n (pc' := 11) C dX4_leaves_10 rfl rfl ?_
    refine f_X4_56 (pc' := 14) C dX4_leaves_11 (by first | assumption | exact rfl | exact al13 rfl | exact Nat.le_of_ble_eq_true rfl) rfl ?_
    refine g_iload_n (pc' := 15) C dX4_leaves_14 rfl rfl ?_
    refine g_iald (pc' := 16) C (j) hx hj24 dX4_leaves_15 (by first | assumption | exact rfl | exact al13 rfl | exact Nat.le_of_ble_eq_true rfl) rfl rfl rfl ?_
    refine g_icmp_ge (tgt := 134) (pc' := 19) C dX4_leaves_16 (by decide) rfl (fun c1 => ?_) (fun c1 => absurd (by rw [hr, ex3, show k = _ by omega]; exact Int32.le_refl _) c1)
    exact g_vret C hR dX4_leaves_134 hpost
  | succ n ih =>
    intro k x3 I X hs0 hf0 hr hgt ex3 hk hpost
    have hs := hs0.1
    have hs4 := hs0.2
    have hf := hf0.1
    have hf9 := hf0.2
    have hat : mAt I j k < 4016 := by unfold mAt; omega
    have h4 : 4 * j + k < 96 := by omega
    refine g_iload_n (pc' := 10) C dX4_leaves_9 rfl rfl ?_
    refine g_aload_n (pc' := 11) C dX4_leaves_10 rfl rfl ?_
    refine f_X4_56 (pc' := 14) C dX4_leaves_11 (by first | assumption | exact rfl | exact al13 rfl | exact Nat.le_of_ble_eq_true rfl) rfl ?_
    refine g_iload_n (pc' := 15) C dX4_leaves_14 rfl rfl ?_
    refine g_iald (pc' := 16) C (j) hx hj24 dX4_leaves_15 (by first | assumption | exact rfl | exact al13 rfl | exact Nat.le_of_ble_eq_true rfl) rfl rfl rfl ?_
    refine g_icmp_ge (tgt := 134) (pc' := 19) C dX4_leaves_16 (by decide) rfl (fun c1 => absurd c1 (by rw [hr, ex3]; exact nI_ge (by omega) (by omega))) (fun c1 => ?_)
    refine g_aload_n (pc' := 20) C dX4_leaves_19 rfl rfl ?_
    refine f_X4_50 (pc' := 23) C dX4_leaves_20 (by first | assumption | exact rfl | exact al13 rfl | exact Nat.le_of_ble_eq_true rfl) rfl ?_
    refine g_iload_n (pc' := 24) C dX4_leaves_23 rfl rfl ?_
    refine g_iald (pc' := 25) C (j) hx hj24 dX4_leaves_24 (by first | assumption | exact rfl | exact al13 rfl | exact Nat.le_of_ble_eq_true rfl) rfl rfl rfl ?_
    refine g_iconst (v := (-1)) (pc' := 26) C dX4_leaves_25 (by decide) rfl ?_
    refine g_icmp_eq (tgt := 134) (pc' := 29) C dX4_leaves_26 (by decide) rfl (fun c2 => absurd (hs.symm.trans c2) (nI_nm1 (by omega))) (fun c2 => ?_)
    refine g_aload_n (pc' := 30) C dX4_leaves_29 rfl rfl ?_
    refine f_X4_53 (pc' := 33) C dX4_leaves_30 (by first | assumption | exact rfl | exact al13 rfl | exact Nat.le_of_ble_eq_true rfl) rfl ?_
    refine g_iload_n (pc' := 34) C dX4_leaves_33 rfl rfl ?_
    refine g_iald (pc' := 35) C (j) hx hj24 dX4_leaves_34 (by first | assumption | exact rfl | exact al13 rfl | exact Nat.le_of_ble_eq_true rfl) rfl rfl rfl ?_
    refine g_aload_n (pc' := 36) C dX4_leaves_35 rfl rfl ?_
    refine f_X4_85 (pc' := 39) C dX4_leaves_36 (by first | assumption | exact rfl | exact al13 rfl | exact Nat.le_of_ble_eq_true rfl) rfl ?_
    refine g_icmp_le (tgt := 134) (pc' := 42) C dX4_leaves_39 (by decide) rfl (fun c3 => absurd c3 hgt) (fun c3 => ?_)
    refine g_sipush (v := 1004) (pc' := 45) C dX4_leaves_42 (by decide) rfl ?_
    refine g_aload_n (pc' := 46) C dX4_leaves_45 rfl rfl ?_
    refine f_X4_50 (pc' := 49) C dX4_leaves_46 (by first | assumption | exact rfl | exact al13 rfl | exact Nat.le_of_ble_eq_true rfl) rfl ?_
    refine g_iload_n (pc' := 50) C dX4_leaves_49 rfl rfl ?_
    refine g_iald (pc' := 51) C (j) hx hj24 dX4_leaves_50 (by first | assumption | exact rfl | exact al13 rfl | exact Nat.le_of_ble_eq_true rfl) rfl rfl rfl ?_
    refine g_imul (pc' := 52) C dX4_leaves_51 rfl ?_
    refine g_aload_n (pc' := 53) C dX4_leaves_52 rfl rfl ?_
    refine f_X4_53 (pc' := 56) C dX4_leaves_53 (by first | assumption | exact rfl | exact al13 rfl | exact Nat.le_of_ble_eq_true rfl) rfl ?_
    refine g_iload_n (pc' := 57) C dX4_leaves_56 rfl rfl ?_
    refine g_iald (pc' := 58) C (j) hx hj24 dX4_leaves_57 (by first | assumption | exact rfl | exact al13 rfl | exact Nat.le_of_ble_eq_true rfl) rfl rfl rfl ?_
    refine g_iadd (pc' := 59) C dX4_leaves_58 rfl ?_
    refine g_iload_n (pc' := 60) C dX4_leaves_59 rfl rfl ?_
    refine g_iadd (pc' := 61) C dX4_leaves_60 rfl ?_
    refine g_istore (pc' := 63) C dX4_leaves_61 rfl rfl ?_
    refine g_aload_n (pc' := 64) C dX4_leaves_63 rfl rfl ?_
    refine f_X4_53 (pc' := 67) C dX4_leaves_64 (by first | assumption | exact rfl | exact al13 rfl | exact Nat.le_of_ble_eq_true rfl) rfl ?_
    refine g_iload_n (pc' := 68) C dX4_leaves_67 rfl rfl ?_
    refine g_iald (pc' := 69) C (j) hx hj24 dX4_leaves_68 (by first | assumption | exact rfl | exact al13 rfl | exact Nat.le_of_ble_eq_true rfl) rfl rfl rfl ?_
    refine g_aload_n (pc' := 70) C dX4_leaves_69 rfl rfl ?_
    refine f_X4_85 (pc' := 73) C dX4_leaves_70 (by first | assumption | exact rfl | exact al13 rfl | exact Nat.le_of_ble_eq_true rfl) rfl ?_
    refine g_isub (pc' := 74) C dX4_leaves_73 rfl ?_
    refine g_bipush (v := 8) (pc' := 76) C dX4_leaves_74 (by decide) rfl ?_
    refine g_icmp_lt (tgt := 101) (pc' := 79) C dX4_leaves_76 (by decide) rfl (fun c4 => ?_) (fun c4 => ?_)
    ·
      refine g_aload_n (pc' := 102) C dX4_leaves_101 rfl rfl ?_
      refine f_X4_65 (pc' := 105) C dX4_leaves_102 (by first | assumption | exact rfl | exact al13 rfl | exact Nat.le_of_ble_eq_true rfl) rfl ?_
      refine g_iload (pc' := 107) C dX4_leaves_105 rfl rfl ?_
      refine g_iload_n (pc' := 108) C dX4_leaves_107 rfl rfl ?_
      refine g_iconst (v := 1) (pc' := 109) C dX4_leaves_108 (by decide) rfl ?_
      refine g_iadd (pc' := 110) C dX4_leaves_109 rfl ?_
      refine g_iast (pc' := 111) C (mAt I j k) (by rw [hs, hf, ex3]; exact ixA _ _ _) hat dX4_leaves_110 (by first | assumption | exact rfl | exact al13 rfl | exact Nat.le_of_ble_eq_true rfl) (fun _ => rfl) rfl rfl ?_
      refine g_aload_n (pc' := 112) C dX4_leaves_111 rfl rfl ?_
      refine f_X4_68 (pc' := 115) C dX4_leaves_112 (by first | assumption | exact rfl | exact al13 rfl | exact Nat.le_of_ble_eq_true rfl) rfl ?_
      refine g_iload (pc' := 117) C dX4_leaves_115 rfl rfl ?_
      refine g_aload_n (pc' := 118) C dX4_leaves_117 rfl rfl ?_
      refine f_X4_62 (pc' := 121) C dX4_leaves_118 (by first | assumption | exact rfl | exact al13 rfl | exact Nat.le_of_ble_eq_true rfl) rfl ?_
      refine g_iconst (v := 4) (pc' := 122) C dX4_leaves_121 (by decide) rfl ?_
      refine g_iload_n (pc' := 123) C dX4_leaves_122 rfl rfl ?_
      refine g_imul (pc' := 124) C dX4_leaves_123 rfl ?_
      refine g_iload_n (pc' := 125) C dX4_leaves_124 rfl rfl ?_
      refine g_iadd (pc' := 126) C dX4_leaves_125 rfl ?_
      refine g_iald (pc' := 127) C (4 * j + k) (by rw [hx, ex3]; exact ix4 _ _) h4 dX4_leaves_126 (by first | assumption | exact rfl | exact al13 rfl | exact Nat.le_of_ble_eq_true rfl) rfl rfl rfl ?_
      refine g_iast (pc' := 128) C (mAt I j k) (by rw [hs, hf, ex3]; exact ixA _ _ _) hat dX4_leaves_127 (by first | assumption | exact rfl | exact al13 rfl | exact Nat.le_of_ble_eq_true rfl) (fun _ => rfl) rfl rfl ?_
      refine g_iinc (pc' := 131) C dX4_leaves_128 rfl (ii1 _) rfl rfl ?_
      refine g_goto (tgt := 9) C dX4_leaves_131 (by decide) ?_
      refine G_pick [0, 1, 2, 3] rfl (ih (k + 1) _ _ (by first | exact X.up _ (by omega) | exact (X.up22 (p := m + 1) (by omega) (by rw [hm2]; exact nI_1 m)).up _ (by omega)) (by simp only [upI_at]; simp; exact hs0) (by simp only [upI_at]; simp; exact hf0) (by simpa [upI_at] using hr) (by simpa [upI_at] using hgt) (by rw [ex3]; exact nI_1 k) (by omega) ?_)
      try rw [hm2]
      simpa [mLvL, mLvS, c1, c2, c3, c4] using hpost
    ·
      refine g_aload_n (pc' := 80) C dX4_leaves_79 rfl rfl ?_
      refine f_X4_35 (pc' := 83) C dX4_leaves_80 (by first | assumption | exact rfl | exact al13 rfl | exact Nat.le_of_ble_eq_true rfl) rfl ?_
      refine g_iload_n (pc' := 84) C dX4_leaves_83 rfl rfl ?_
      refine g_dup2 (pc' := 85) C dX4_leaves_84 rfl rfl rfl ?_
      refine g_iald (pc' := 86) C (m) hm2 hm12 dX4_leaves_85 (by first | assumption | exact rfl | exact al13 rfl | exact Nat.le_of_ble_eq_true rfl) rfl rfl rfl ?_
      refine g_aload_n (pc' := 87) C dX4_leaves_86 rfl rfl ?_
      refine f_X4_62 (pc' := 90) C dX4_leaves_87 (by first | assumption | exact rfl | exact al13 rfl | exact Nat.le_of_ble_eq_true rfl) rfl ?_
      refine g_iconst (v := 4) (pc' := 91) C dX4_leaves_90 (by decide) rfl ?_
      refine g_iload_n (pc' := 92) C dX4_leaves_91 rfl rfl ?_
      refine g_imul (pc' := 93) C dX4_leaves_92 rfl ?_
      refine g_iload_n (pc' := 94) C dX4_leaves_93 rfl rfl ?_
      refine g_iadd (pc' := 95) C dX4_leaves_94 rfl ?_
      refine g_iald (pc' := 96) C (4 * j + k) (by rw [hx, ex3]; exact ix4 _ _) h4 dX4_leaves_95 (by first | assumption | exact rfl | exact al13 rfl | exact Nat.le_of_ble_eq_true rfl) rfl rfl rfl ?_
      refine g_iadd (pc' := 97) C dX4_leaves_96 rfl ?_
      refine g_iast (pc' := 98) C (m) hm2 hm12 dX4_leaves_97 (by first | assumption | exact rfl | exact al13 rfl | exact Nat.le_of_ble_eq_true rfl) (fun _ => rfl) rfl rfl ?_
      refine g_goto (tgt := 128) C dX4_leaves_98 (by decide) ?_
      refine g_iinc (pc' := 131) C dX4_leaves_128 rfl (ii1 _) rfl rfl ?_
      refine g_goto (tgt := 9) C dX4_leaves_131 (by decide) ?_
      refine G_pick [0, 1, 2, 3] rfl (ih (k + 1) _ _ (by first | exact X.up _ (by omega) | exact (X.up22 (p := m + 1) (by omega) (by rw [hm2]; exact nI_1 m)).up _ (by omega)) (by simp only [upI_at]; simp; exact hs0) (by simp only [upI_at]; simp; exact hf0) (by simpa [upI_at] using hr) (by simpa [upI_at] using hgt) (by rw [ex3]; exact nI_1 k) (by omega) ?_)
      try rw [hm2]
      simpa [mLvL, mLvS, c1, c2, c3, c4] using hpost
set_option maxRecDepth 20000 in
theorem m_X4_leaves {l : Launch} {g : wG} {z : wZ} {I : wI} {P : wP} {O : wO} {M N j : Nat} {x : Int32} (X : MI M N I) (hx : x = nI j) (hj : j < N) : RT l yX4_leaves cX4_leaves 5 (none) { frames := 0, cells := 0, slots := 0, locals := 0 } g z [.ref (g.2.2 12 0), .int x] I P O (dp (none) (mLv j I) (P)) := by
  refine RT.of (own := RX4) rfl (by decide +kernel) (Nat.le_of_ble_eq_true rfl) rfl (fun K C hl hg hR => ?_)
  subst hl
  subst hg
  have hj24 : j < 24 := by have := X.2.1; omega
  have hr := X.hr hj
  have hr4 := X.hr4 hj
  refine g_aload_n (pc' := 1) C dX4_leaves_0 rfl rfl ?_
  refine f_X4_44 (pc' := 4) C dX4_leaves_1 (by first | assumption | exact rfl | exact al13 rfl | exact Nat.le_of_ble_eq_true rfl) rfl ?_
  refine g_iload_n (pc' := 5) C dX4_leaves_4 rfl rfl ?_
  refine g_iald (pc' := 6) C (j) hx hj24 dX4_leaves_5 (by first | assumption | exact rfl | exact al13 rfl | exact Nat.le_of_ble_eq_true rfl) rfl rfl rfl ?_
  refine g_istore_n (pc' := 7) C dX4_leaves_6 rfl rfl ?_
  refine g_iconst (v := 0) (pc' := 8) C dX4_leaves_7 (by decide) rfl ?_
  refine g_istore_n (pc' := 9) C dX4_leaves_8 rfl rfl ?_
  by_cases hc : I 13 17 j = -1 ∨ I 13 18 j ≤ I 12 0 1
  · skip
    refine g_iload_n (pc' := 10) C dX4_leaves_9 rfl rfl ?_
    refine g_aload_n (pc' := 11) C dX4_leaves_10 rfl rfl ?_
    refine f_X4_56 (pc' := 14) C dX4_leaves_11 (by first | assumption | exact rfl | exact al13 rfl | exact Nat.le_of_ble_eq_true rfl) rfl ?_
    refine g_iload_n (pc' := 15) C dX4_leaves_14 rfl rfl ?_
    refine g_iald (pc' := 16) C (j) hx hj24 dX4_leaves_15 (by first | assumption | exact rfl | exact al13 rfl | exact Nat.le_of_ble_eq_true rfl) rfl rfl rfl ?_
    refine g_icmp_ge (tgt := 134) (pc' := 19) C dX4_leaves_16 (by decide) rfl (fun c1 => ?_) (fun c1 => ?_)
    ·
      exact g_vret C hR dX4_leaves_134 ⟨rfl, by simp [mLv, hc], rfl⟩
    ·
      refine g_aload_n (pc' := 20) C dX4_leaves_19 rfl rfl ?_
      refine f_X4_50 (pc' := 23) C dX4_leaves_20 (by first | assumption | exact rfl | exact al13 rfl | exact Nat.le_of_ble_eq_true rfl) rfl ?_
      refine g_iload_n (pc' := 24) C dX4_leaves_23 rfl rfl ?_
      refine g_iald (pc' := 25) C (j) hx hj24 dX4_leaves_24 (by first | assumption | exact rfl | exact al13 rfl | exact Nat.le_of_ble_eq_true rfl) rfl rfl rfl ?_
      refine g_iconst (v := (-1)) (pc' := 26) C dX4_leaves_25 (by decide) rfl ?_
      refine g_icmp_eq (tgt := 134) (pc' := 29) C dX4_leaves_26 (by decide) rfl (fun c2 => ?_) (fun c2 => ?_)
      ·
        exact g_vret C hR dX4_leaves_134 ⟨rfl, by simp [mLv, hc], rfl⟩
      ·
        refine g_aload_n (pc' := 30) C dX4_leaves_29 rfl rfl ?_
        refine f_X4_53 (pc' := 33) C dX4_leaves_30 (by first | assumption | exact rfl | exact al13 rfl | exact Nat.le_of_ble_eq_true rfl) rfl ?_
        refine g_iload_n (pc' := 34) C dX4_leaves_33 rfl rfl ?_
        refine g_iald (pc' := 35) C (j) hx hj24 dX4_leaves_34 (by first | assumption | exact rfl | exact al13 rfl | exact Nat.le_of_ble_eq_true rfl) rfl rfl rfl ?_
        refine g_aload_n (pc' := 36) C dX4_leaves_35 rfl rfl ?_
        refine f_X4_85 (pc' := 39) C dX4_leaves_36 (by first | assumption | exact rfl | exact al13 rfl | exact Nat.le_of_ble_eq_true rfl) rfl ?_
        refine g_icmp_le (tgt := 134) (pc' := 42) C dX4_leaves_39 (by decide) rfl (fun c3 => ?_) (fun c3 => absurd (hc.resolve_left c2) c3)
        exact g_vret C hR dX4_leaves_134 ⟨rfl, by simp [mLv, hc], rfl⟩
  · skip
    refine l_X4_leaves C hR hx hj24 (X.mt hj) (X.mtM hj) (X.mt2 hj) hr4 (mh I j) 0 0 I X ((X.sp hj).resolve_left (fun e => hc (Or.inl e))) (X.fr hj) hr (fun e => hc (Or.inr e)) nI_0.symm (by omega) ⟨rfl, ?_, rfl⟩
    simp [mLv, hc]
theorem by_m1 {p : Nat} (h : 0 < p) (h2 : p < 2 ^ 30) : ¬ nI p - 1 = -1 := by
  intro e
  have := congrArg Int32.toInt e
  rw [nI_m1 p h2] at this
  simp at this
  omega
theorem by_pr {p : Nat} (h : 0 < p) : nI p - 1 = nI (p - 1) := by
  obtain ⟨q, rfl⟩ : ∃ q, p = q + 1 := ⟨p - 1, by omega⟩
  exact nI_pred q
set_option maxRecDepth 20000 in
theorem l_X4_comes {K : wK} {z : wZ} {P : wP} {O : wO} {post : Option Value → wI → wP → Prop} {M N j m hr : Nat} {x x2 : Int32} (C : Cx K cX4_comes RX4 7 (none) { frames := 0, cells := 0, slots := 0, locals := 0 } z) (hR : Rx K z O post) (hx : x = nI j) (hj24 : j < 24) (hm2 : x2 = nI m) (hmM : m < M) (hm12 : m < 12) (hr4 : hr ≤ 4) : ∀ (n k : Nat) (x3 : Int32) (I : wI), MI M N I → I 13 17 j = nI (msp I j) → msp I j < 4 → I 13 18 j = nI (mfr I j) → mfr I j ≤ 999 → I 13 19 j = nI hr → x3 = nI k → k + n = hr → post none (mCmL j m n k I) P → G K z I P O 0 0 9 [(0, .ref ((Kg K).2.2 12 0)), (1, .int x), (2, .int x2), (3, .int x3)] [] := by
  intro n
  induction n with
  | zero =>
    intro k x3 I X hsa hs4 hfa hf9 hr ex3 hk hpost
    refine g_iload_n (pc' := 10) C dX4_comes_9 rfl rfl ?_
    refine g_aload_n (pc' := 11) C dX4_comes_10 rfl rfl ?_
    refine f_X4_56 (pc' := 14) C dX4_comes_11 (by first | assumption | exact rfl | exact al13 rfl | exact Nat.le_of_ble_eq_true rfl) rfl ?_
    refine g_iload_n (pc' := 15) C dX4_comes_14 rfl rfl ?_
    refine g_iald (pc' := 16) C (j) hx hj24 dX4_comes_15 (by first | assumption | exact rfl | exact al13 rfl | exact Nat.le_of_ble_eq_true rfl) rfl rfl rfl ?_
    refine g_icmp_ge (tgt := 174) (pc' := 19) C dX4_comes_16 (by decide) rfl (fun c1 => ?_) (fun c1 => absurd (by rw [hr, ex3, show k = _ by omega]; exact Int32.le_refl _) c1)
    exact g_vret C hR dX4_comes_174 hpost
  | succ n ih =>
    intro k x3 I X hsa hs4 hfa hf9 hr ex3 hk hpost
    have hs := hsa
    have hf := hfa
    have hat : mAt I j k < 4016 := by unfold mAt; omega
    have h4 : 4 * j + k < 96 := by omega
    have hpe : I 13 22 (mAt I j k) = nI (mpy I (mAt I j k)) := (X.py hat).1
    have hpM := (X.py hat).2
    have hM12 := X.1
    refine g_iload_n (pc' := 10) C dX4_comes_9 rfl rfl ?_
    refine g_aload_n (pc' := 11) C dX4_comes_10 rfl rfl ?_
    refine f_X4_56 (pc' := 14) C dX4_comes_11 (by first | assumption | exact rfl | exact al13 rfl | exact Nat.le_of_ble_eq_true rfl) rfl ?_
    refine g_iload_n (pc' := 15) C dX4_comes_14 rfl rfl ?_
    refine g_iald (pc' := 16) C (j) hx hj24 dX4_comes_15 (by first | assumption | exact rfl | exact al13 rfl | exact Nat.le_of_ble_eq_true rfl) rfl rfl rfl ?_
    refine g_icmp_ge (tgt := 174) (pc' := 19) C dX4_comes_16 (by decide) rfl (fun c1 => absurd c1 (by rw [hr, ex3]; exact nI_ge (by omega) (by omega))) (fun c1 => ?_)
    refine g_iconst (v := 0) (pc' := 20) C dX4_comes_19 (by decide) rfl ?_
    refine g_istore (pc' := 22) C dX4_comes_20 rfl rfl ?_
    refine g_aload_n (pc' := 23) C dX4_comes_22 rfl rfl ?_
    refine f_X4_50 (pc' := 26) C dX4_comes_23 (by first | assumption | exact rfl | exact al13 rfl | exact Nat.le_of_ble_eq_true rfl) rfl ?_
    refine g_iload_n (pc' := 27) C dX4_comes_26 rfl rfl ?_
    refine g_iald (pc' := 28) C (j) hx hj24 dX4_comes_27 (by first | assumption | exact rfl | exact al13 rfl | exact Nat.le_of_ble_eq_true rfl) rfl rfl rfl ?_
    refine g_iconst (v := (-1)) (pc' := 29) C dX4_comes_28 (by decide) rfl ?_
    refine g_icmp_eq (tgt := 145) (pc' := 32) C dX4_comes_29 (by decide) rfl (fun c2 => absurd (hs.symm.trans c2) (nI_nm1 (by omega))) (fun c2 => ?_)
    refine g_sipush (v := 1004) (pc' := 35) C dX4_comes_32 (by decide) rfl ?_
    refine g_aload_n (pc' := 36) C dX4_comes_35 rfl rfl ?_
    refine f_X4_50 (pc' := 39) C dX4_comes_36 (by first | assumption | exact rfl | exact al13 rfl | exact Nat.le_of_ble_eq_true rfl) rfl ?_
    refine g_iload_n (pc' := 40) C dX4_comes_39 rfl rfl ?_
    refine g_iald (pc' := 41) C (j) hx hj24 dX4_comes_40 (by first | assumption | exact rfl | exact al13 rfl | exact Nat.le_of_ble_eq_true rfl) rfl rfl rfl ?_
    refine g_imul (pc' := 42) C dX4_comes_41 rfl ?_
    refine g_aload_n (pc' := 43) C dX4_comes_42 rfl rfl ?_
    refine f_X4_53 (pc' := 46) C dX4_comes_43 (by first | assumption | exact rfl | exact al13 rfl | exact Nat.le_of_ble_eq_true rfl) rfl ?_
    refine g_iload_n (pc' := 47) C dX4_comes_46 rfl rfl ?_
    refine g_iald (pc' := 48) C (j) hx hj24 dX4_comes_47 (by first | assumption | exact rfl | exact al13 rfl | exact Nat.le_of_ble_eq_true rfl) rfl rfl rfl ?_
    refine g_iadd (pc' := 49) C dX4_comes_48 rfl ?_
    refine g_iload_n (pc' := 50) C dX4_comes_49 rfl rfl ?_
    refine g_iadd (pc' := 51) C dX4_comes_50 rfl ?_
    refine g_istore (pc' := 53) C dX4_comes_51 rfl rfl ?_
    refine g_aload_n (pc' := 54) C dX4_comes_53 rfl rfl ?_
    refine f_X4_65 (pc' := 57) C dX4_comes_54 (by first | assumption | exact rfl | exact al13 rfl | exact Nat.le_of_ble_eq_true rfl) rfl ?_
    refine g_iload (pc' := 59) C dX4_comes_57 rfl rfl ?_
    refine g_iald (pc' := 60) C (mAt I j k) (by rw [hs, hf, ex3]; exact ixA _ _ _) hat dX4_comes_59 (by first | assumption | exact rfl | exact al13 rfl | exact Nat.le_of_ble_eq_true rfl) rfl rfl rfl ?_
    refine g_iconst (v := 1) (pc' := 61) C dX4_comes_60 (by decide) rfl ?_
    refine g_isub (pc' := 62) C dX4_comes_61 rfl ?_
    refine g_istore (pc' := 64) C dX4_comes_62 rfl rfl ?_
    rcases (by omega : mpy I (mAt I j k) = 0 ∨ mpy I (mAt I j k) = m + 1 ∨ (¬ mpy I (mAt I j k) = 0 ∧ ¬ mpy I (mAt I j k) = m + 1)) with hp | hp | ⟨hp, hp2⟩
    · have e1 : I 13 22 (mAt I j k) - 1 = -1 := by rw [hpe, hp]; decide
      refine g_iload (pc' := 66) C dX4_comes_64 rfl rfl ?_
      refine g_iconst (v := (-1)) (pc' := 67) C dX4_comes_66 (by decide) rfl ?_
      refine g_icmp_ne (tgt := 84) (pc' := 70) C dX4_comes_67 (by decide) rfl (fun c3 => absurd e1 c3) (fun c3 => ?_)
      refine g_aload_n (pc' := 71) C dX4_comes_70 rfl rfl ?_
      refine f_X4_13 (pc' := 74) C dX4_comes_71 (by first | assumption | exact rfl | exact al13 rfl | exact Nat.le_of_ble_eq_true rfl) rfl ?_
      refine g_aload_n (pc' := 75) C dX4_comes_74 rfl rfl ?_
      refine f_X4_50 (pc' := 78) C dX4_comes_75 (by first | assumption | exact rfl | exact al13 rfl | exact Nat.le_of_ble_eq_true rfl) rfl ?_
      refine g_iload_n (pc' := 79) C dX4_comes_78 rfl rfl ?_
      refine g_iald (pc' := 80) C (j) hx hj24 dX4_comes_79 (by first | assumption | exact rfl | exact al13 rfl | exact Nat.le_of_ble_eq_true rfl) rfl rfl rfl ?_
      refine g_iald (pc' := 81) C (msp I j) hs hs4 dX4_comes_80 (by first | assumption | exact rfl | exact al13 rfl | exact Nat.le_of_ble_eq_true rfl) rfl rfl rfl ?_
      refine g_goto (tgt := 103) C dX4_comes_81 (by decide) ?_
      refine g_istore (pc' := 105) C dX4_comes_103 rfl rfl ?_
      refine g_iload (pc' := 107) C dX4_comes_105 rfl rfl ?_
      refine g_iconst (v := (-1)) (pc' := 108) C dX4_comes_107 (by decide) rfl ?_
      refine g_icmp_eq (tgt := 129) (pc' := 111) C dX4_comes_108 (by decide) rfl (fun c4 => ?_) (fun c4 => absurd e1 c4)
      refine g_aload_n (pc' := 130) C dX4_comes_129 rfl rfl ?_
      refine f_X4_65 (pc' := 133) C dX4_comes_130 (by first | assumption | exact rfl | exact al13 rfl | exact Nat.le_of_ble_eq_true rfl) rfl ?_
      refine g_iload (pc' := 135) C dX4_comes_133 rfl rfl ?_
      refine g_iconst (v := 0) (pc' := 136) C dX4_comes_135 (by decide) rfl ?_
      refine g_iast (pc' := 137) C (mAt I j k) (by rw [hs, hf, ex3]; exact ixA _ _ _) hat dX4_comes_136 (by first | assumption | exact rfl | exact al13 rfl | exact Nat.le_of_ble_eq_true rfl) (fun _ => rfl) rfl rfl ?_
      refine g_aload_n (pc' := 138) C dX4_comes_137 rfl rfl ?_
      refine f_X4_68 (pc' := 141) C dX4_comes_138 (by first | assumption | exact rfl | exact al13 rfl | exact Nat.le_of_ble_eq_true rfl) rfl ?_
      refine g_iload (pc' := 143) C dX4_comes_141 rfl rfl ?_
      refine g_iconst (v := 0) (pc' := 144) C dX4_comes_143 (by decide) rfl ?_
      refine g_iast (pc' := 145) C (mAt I j k) (by rw [hs, hf, ex3]; exact ixA _ _ _) hat dX4_comes_144 (by first | assumption | exact rfl | exact al13 rfl | exact Nat.le_of_ble_eq_true rfl) (fun _ => rfl) rfl rfl ?_
      refine g_aload_n (pc' := 146) C dX4_comes_145 rfl rfl ?_
      refine f_X4_62 (pc' := 149) C dX4_comes_146 (by first | assumption | exact rfl | exact al13 rfl | exact Nat.le_of_ble_eq_true rfl) rfl ?_
      refine g_iconst (v := 4) (pc' := 150) C dX4_comes_149 (by decide) rfl ?_
      refine g_iload_n (pc' := 151) C dX4_comes_150 rfl rfl ?_
      refine g_imul (pc' := 152) C dX4_comes_151 rfl ?_
      refine g_iload_n (pc' := 153) C dX4_comes_152 rfl rfl ?_
      refine g_iadd (pc' := 154) C dX4_comes_153 rfl ?_
      refine g_iload (pc' := 156) C dX4_comes_154 rfl rfl ?_
      refine g_iast (pc' := 157) C (4 * j + k) (by rw [hx, ex3]; exact ix4 _ _) h4 dX4_comes_156 (by first | assumption | exact rfl | exact al13 rfl | exact Nat.le_of_ble_eq_true rfl) (fun _ => rfl) rfl rfl ?_
      refine g_aload_n (pc' := 158) C dX4_comes_157 rfl rfl ?_
      refine f_X4_35 (pc' := 161) C dX4_comes_158 (by first | assumption | exact rfl | exact al13 rfl | exact Nat.le_of_ble_eq_true rfl) rfl ?_
      refine g_iload_n (pc' := 162) C dX4_comes_161 rfl rfl ?_
      refine g_dup2 (pc' := 163) C dX4_comes_162 rfl rfl rfl ?_
      refine g_iald (pc' := 164) C (m) hm2 hm12 dX4_comes_163 (by first | assumption | exact rfl | exact al13 rfl | exact Nat.le_of_ble_eq_true rfl) rfl rfl rfl ?_
      refine g_iload (pc' := 166) C dX4_comes_164 rfl rfl ?_
      refine g_isub (pc' := 167) C dX4_comes_166 rfl ?_
      refine g_iast (pc' := 168) C (m) hm2 hm12 dX4_comes_167 (by first | assumption | exact rfl | exact al13 rfl | exact Nat.le_of_ble_eq_true rfl) (fun _ => rfl) rfl rfl ?_
      refine g_iinc (pc' := 171) C dX4_comes_168 rfl (ii1 _) rfl rfl ?_
      refine g_goto (tgt := 9) C dX4_comes_171 (by decide) ?_
      refine G_pick [0, 1, 2, 3] rfl (ih (k + 1) _ _ (by first | exact ((((X.up22 (p := 0) (by omega) rfl).up _ (by omega)).up _ (by omega)).up _ (by omega)) | exact (((((X.up _ (by omega)).up22 (p := 0) (by omega) rfl).up _ (by omega)).up _ (by omega)).up _ (by omega))) (by simp only [upI_at]; simp; rw [msp_of (I := I) (by simp only [upI_at]; simp)]; exact hsa) (by rw [msp_of (I := I) (by simp only [upI_at]; simp)]; exact hs4) (by simp only [upI_at]; simp; rw [mfr_of (I := I) (by simp only [upI_at]; simp)]; exact hfa) (by rw [mfr_of (I := I) (by simp only [upI_at]; simp)]; exact hf9) (by simpa [upI_at] using hr) (by rw [ex3]; exact nI_1 k) (by omega) ?_)
      simpa [mCmL, mCmS, c1, c2, hp, c3, c4] using hpost
    · have e1 : ¬ I 13 22 (mAt I j k) - 1 = -1 := by rw [hpe, hp]; exact by_m1 (by omega) (by omega)
      have e2 : I 13 22 (mAt I j k) - 1 = x2 := by rw [hpe, hp, hm2]; exact nI_pred m
      refine g_iload (pc' := 66) C dX4_comes_64 rfl rfl ?_
      refine g_iconst (v := (-1)) (pc' := 67) C dX4_comes_66 (by decide) rfl ?_
      refine g_icmp_ne (tgt := 84) (pc' := 70) C dX4_comes_67 (by decide) rfl (fun c5 => ?_) (fun c5 => absurd c5 e1)
      refine g_iload (pc' := 86) C dX4_comes_84 rfl rfl ?_
      refine g_iload_n (pc' := 87) C dX4_comes_86 rfl rfl ?_
      refine g_icmp_ne (tgt := 94) (pc' := 90) C dX4_comes_87 (by decide) rfl (fun c6 => absurd e2 c6) (fun c6 => ?_)
      refine g_iconst (v := 0) (pc' := 91) C dX4_comes_90 (by decide) rfl ?_
      refine g_goto (tgt := 103) C dX4_comes_91 (by decide) ?_
      refine g_istore (pc' := 105) C dX4_comes_103 rfl rfl ?_
      refine g_iload (pc' := 107) C dX4_comes_105 rfl rfl ?_
      refine g_iconst (v := (-1)) (pc' := 108) C dX4_comes_107 (by decide) rfl ?_
      refine g_icmp_eq (tgt := 129) (pc' := 111) C dX4_comes_108 (by decide) rfl (fun c7 => absurd c7 e1) (fun c7 => ?_)
      refine g_iload (pc' := 113) C dX4_comes_111 rfl rfl ?_
      refine g_iload_n (pc' := 114) C dX4_comes_113 rfl rfl ?_
      refine g_icmp_eq (tgt := 129) (pc' := 117) C dX4_comes_114 (by decide) rfl (fun c8 => ?_) (fun c8 => absurd e2 c8)
      refine g_aload_n (pc' := 130) C dX4_comes_129 rfl rfl ?_
      refine f_X4_65 (pc' := 133) C dX4_comes_130 (by first | assumption | exact rfl | exact al13 rfl | exact Nat.le_of_ble_eq_true rfl) rfl ?_
      refine g_iload (pc' := 135) C dX4_comes_133 rfl rfl ?_
      refine g_iconst (v := 0) (pc' := 136) C dX4_comes_135 (by decide) rfl ?_
      refine g_iast (pc' := 137) C (mAt I j k) (by rw [hs, hf, ex3]; exact ixA _ _ _) hat dX4_comes_136 (by first | assumption | exact rfl | exact al13 rfl | exact Nat.le_of_ble_eq_true rfl) (fun _ => rfl) rfl rfl ?_
      refine g_aload_n (pc' := 138) C dX4_comes_137 rfl rfl ?_
      refine f_X4_68 (pc' := 141) C dX4_comes_138 (by first | assumption | exact rfl | exact al13 rfl | exact Nat.le_of_ble_eq_true rfl) rfl ?_
      refine g_iload (pc' := 143) C dX4_comes_141 rfl rfl ?_
      refine g_iconst (v := 0) (pc' := 144) C dX4_comes_143 (by decide) rfl ?_
      refine g_iast (pc' := 145) C (mAt I j k) (by rw [hs, hf, ex3]; exact ixA _ _ _) hat dX4_comes_144 (by first | assumption | exact rfl | exact al13 rfl | exact Nat.le_of_ble_eq_true rfl) (fun _ => rfl) rfl rfl ?_
      refine g_aload_n (pc' := 146) C dX4_comes_145 rfl rfl ?_
      refine f_X4_62 (pc' := 149) C dX4_comes_146 (by first | assumption | exact rfl | exact al13 rfl | exact Nat.le_of_ble_eq_true rfl) rfl ?_
      refine g_iconst (v := 4) (pc' := 150) C dX4_comes_149 (by decide) rfl ?_
      refine g_iload_n (pc' := 151) C dX4_comes_150 rfl rfl ?_
      refine g_imul (pc' := 152) C dX4_comes_151 rfl ?_
      refine g_iload_n (pc' := 153) C dX4_comes_152 rfl rfl ?_
      refine g_iadd (pc' := 154) C dX4_comes_153 rfl ?_
      refine g_iload (pc' := 156) C dX4_comes_154 rfl rfl ?_
      refine g_iast (pc' := 157) C (4 * j + k) (by rw [hx, ex3]; exact ix4 _ _) h4 dX4_comes_156 (by first | assumption | exact rfl | exact al13 rfl | exact Nat.le_of_ble_eq_true rfl) (fun _ => rfl) rfl rfl ?_
      refine g_aload_n (pc' := 158) C dX4_comes_157 rfl rfl ?_
      refine f_X4_35 (pc' := 161) C dX4_comes_158 (by first | assumption | exact rfl | exact al13 rfl | exact Nat.le_of_ble_eq_true rfl) rfl ?_
      refine g_iload_n (pc' := 162) C dX4_comes_161 rfl rfl ?_
      refine g_dup2 (pc' := 163) C dX4_comes_162 rfl rfl rfl ?_
      refine g_iald (pc' := 164) C (m) hm2 hm12 dX4_comes_163 (by first | assumption | exact rfl | exact al13 rfl | exact Nat.le_of_ble_eq_true rfl) rfl rfl rfl ?_
      refine g_iload (pc' := 166) C dX4_comes_164 rfl rfl ?_
      refine g_isub (pc' := 167) C dX4_comes_166 rfl ?_
      refine g_iast (pc' := 168) C (m) hm2 hm12 dX4_comes_167 (by first | assumption | exact rfl | exact al13 rfl | exact Nat.le_of_ble_eq_true rfl) (fun _ => rfl) rfl rfl ?_
      refine g_iinc (pc' := 171) C dX4_comes_168 rfl (ii1 _) rfl rfl ?_
      refine g_goto (tgt := 9) C dX4_comes_171 (by decide) ?_
      refine G_pick [0, 1, 2, 3] rfl (ih (k + 1) _ _ (by first | exact ((((X.up22 (p := 0) (by omega) rfl).up _ (by omega)).up _ (by omega)).up _ (by omega)) | exact (((((X.up _ (by omega)).up22 (p := 0) (by omega) rfl).up _ (by omega)).up _ (by omega)).up _ (by omega))) (by simp only [upI_at]; simp; rw [msp_of (I := I) (by simp only [upI_at]; simp)]; exact hsa) (by rw [msp_of (I := I) (by simp only [upI_at]; simp)]; exact hs4) (by simp only [upI_at]; simp; rw [mfr_of (I := I) (by simp only [upI_at]; simp)]; exact hfa) (by rw [mfr_of (I := I) (by simp only [upI_at]; simp)]; exact hf9) (by simpa [upI_at] using hr) (by rw [ex3]; exact nI_1 k) (by omega) ?_)
      simpa [mCmL, mCmS, c1, c2, hp, c5, c6, c7, c8] using hpost
    · have e1 : ¬ I 13 22 (mAt I j k) - 1 = -1 := by rw [hpe]; exact by_m1 (by omega) (by omega)
      have e3 : I 13 22 (mAt I j k) - 1 = nI (mpy I (mAt I j k) - 1) := by rw [hpe]; exact by_pr (by omega)
      have e2 : ¬ I 13 22 (mAt I j k) - 1 = x2 := by rw [e3, hm2]; exact fun e => absurd ((nI_eq (by omega) (by omega)).mp e) (by omega)
      have hq12 : mpy I (mAt I j k) - 1 < 12 := by omega
      refine g_iload (pc' := 66) C dX4_comes_64 rfl rfl ?_
      refine g_iconst (v := (-1)) (pc' := 67) C dX4_comes_66 (by decide) rfl ?_
      refine g_icmp_ne (tgt := 84) (pc' := 70) C dX4_comes_67 (by decide) rfl (fun c9 => ?_) (fun c9 => absurd c9 e1)
      refine g_iload (pc' := 86) C dX4_comes_84 rfl rfl ?_
      refine g_iload_n (pc' := 87) C dX4_comes_86 rfl rfl ?_
      refine g_icmp_ne (tgt := 94) (pc' := 90) C dX4_comes_87 (by decide) rfl (fun c10 => ?_) (fun c10 => absurd c10 e2)
      refine g_aload_n (pc' := 95) C dX4_comes_94 rfl rfl ?_
      refine f_X4_68 (pc' := 98) C dX4_comes_95 (by first | assumption | exact rfl | exact al13 rfl | exact Nat.le_of_ble_eq_true rfl) rfl ?_
      refine g_iload (pc' := 100) C dX4_comes_98 rfl rfl ?_
      refine g_iald (pc' := 101) C (mAt I j k) (by rw [hs, hf, ex3]; exact ixA _ _ _) hat dX4_comes_100 (by first | assumption | exact rfl | exact al13 rfl | exact Nat.le_of_ble_eq_true rfl) rfl rfl rfl ?_
      refine g_iconst (v := 2) (pc' := 102) C dX4_comes_101 (by decide) rfl ?_
      refine g_idiv (pc' := 103) C dX4_comes_102 (by decide) rfl ?_
      refine g_istore (pc' := 105) C dX4_comes_103 rfl rfl ?_
      refine g_iload (pc' := 107) C dX4_comes_105 rfl rfl ?_
      refine g_iconst (v := (-1)) (pc' := 108) C dX4_comes_107 (by decide) rfl ?_
      refine g_icmp_eq (tgt := 129) (pc' := 111) C dX4_comes_108 (by decide) rfl (fun c11 => absurd c11 e1) (fun c11 => ?_)
      refine g_iload (pc' := 113) C dX4_comes_111 rfl rfl ?_
      refine g_iload_n (pc' := 114) C dX4_comes_113 rfl rfl ?_
      refine g_icmp_eq (tgt := 129) (pc' := 117) C dX4_comes_114 (by decide) rfl (fun c12 => absurd c12 e2) (fun c12 => ?_)
      refine g_aload_n (pc' := 118) C dX4_comes_117 rfl rfl ?_
      refine f_X4_35 (pc' := 121) C dX4_comes_118 (by first | assumption | exact rfl | exact al13 rfl | exact Nat.le_of_ble_eq_true rfl) rfl ?_
      refine g_iload (pc' := 123) C dX4_comes_121 rfl rfl ?_
      refine g_dup2 (pc' := 124) C dX4_comes_123 rfl rfl rfl ?_
      refine g_iald (pc' := 125) C (mpy I (mAt I j k) - 1) e3 hq12 dX4_comes_124 (by first | assumption | exact rfl | exact al13 rfl | exact Nat.le_of_ble_eq_true rfl) rfl rfl rfl ?_
      refine g_iload (pc' := 127) C dX4_comes_125 rfl rfl ?_
      refine g_iadd (pc' := 128) C dX4_comes_127 rfl ?_
      refine g_iast (pc' := 129) C (mpy I (mAt I j k) - 1) e3 hq12 dX4_comes_128 (by first | assumption | exact rfl | exact al13 rfl | exact Nat.le_of_ble_eq_true rfl) (fun _ => rfl) rfl rfl ?_
      refine g_aload_n (pc' := 130) C dX4_comes_129 rfl rfl ?_
      refine f_X4_65 (pc' := 133) C dX4_comes_130 (by first | assumption | exact rfl | exact al13 rfl | exact Nat.le_of_ble_eq_true rfl) rfl ?_
      refine g_iload (pc' := 135) C dX4_comes_133 rfl rfl ?_
      refine g_iconst (v := 0) (pc' := 136) C dX4_comes_135 (by decide) rfl ?_
      refine g_iast (pc' := 137) C (mAt I j k) (by rw [hs, hf, ex3]; exact ixA _ _ _) hat dX4_comes_136 (by first | assumption | exact rfl | exact al13 rfl | exact Nat.le_of_ble_eq_true rfl) (fun _ => rfl) rfl rfl ?_
      refine g_aload_n (pc' := 138) C dX4_comes_137 rfl rfl ?_
      refine f_X4_68 (pc' := 141) C dX4_comes_138 (by first | assumption | exact rfl | exact al13 rfl | exact Nat.le_of_ble_eq_true rfl) rfl ?_
      refine g_iload (pc' := 143) C dX4_comes_141 rfl rfl ?_
      refine g_iconst (v := 0) (pc' := 144) C dX4_comes_143 (by decide) rfl ?_
      refine g_iast (pc' := 145) C (mAt I j k) (by rw [hs, hf, ex3]; exact ixA _ _ _) hat dX4_comes_144 (by first | assumption | exact rfl | exact al13 rfl | exact Nat.le_of_ble_eq_true rfl) (fun _ => rfl) rfl rfl ?_
      refine g_aload_n (pc' := 146) C dX4_comes_145 rfl rfl ?_
      refine f_X4_62 (pc' := 149) C dX4_comes_146 (by first | assumption | exact rfl | exact al13 rfl | exact Nat.le_of_ble_eq_true rfl) rfl ?_
      refine g_iconst (v := 4) (pc' := 150) C dX4_comes_149 (by decide) rfl ?_
      refine g_iload_n (pc' := 151) C dX4_comes_150 rfl rfl ?_
      refine g_imul (pc' := 152) C dX4_comes_151 rfl ?_
      refine g_iload_n (pc' := 153) C dX4_comes_152 rfl rfl ?_
      refine g_iadd (pc' := 154) C dX4_comes_153 rfl ?_
      refine g_iload (pc' := 156) C dX4_comes_154 rfl rfl ?_
      refine g_iast (pc' := 157) C (4 * j + k) (by rw [hx, ex3]; exact ix4 _ _) h4 dX4_comes_156 (by first | assumption | exact rfl | exact al13 rfl | exact Nat.le_of_ble_eq_true rfl) (fun _ => rfl) rfl rfl ?_
      refine g_aload_n (pc' := 158) C dX4_comes_157 rfl rfl ?_
      refine f_X4_35 (pc' := 161) C dX4_comes_158 (by first | assumption | exact rfl | exact al13 rfl | exact Nat.le_of_ble_eq_true rfl) rfl ?_
      refine g_iload_n (pc' := 162) C dX4_comes_161 rfl rfl ?_
      refine g_dup2 (pc' := 163) C dX4_comes_162 rfl rfl rfl ?_
      refine g_iald (pc' := 164) C (m) hm2 hm12 dX4_comes_163 (by first | assumption | exact rfl | exact al13 rfl | exact Nat.le_of_ble_eq_true rfl) rfl rfl rfl ?_
      refine g_iload (pc' := 166) C dX4_comes_164 rfl rfl ?_
      refine g_isub (pc' := 167) C dX4_comes_166 rfl ?_
      refine g_iast (pc' := 168) C (m) hm2 hm12 dX4_comes_167 (by first | assumption | exact rfl | exact al13 rfl | exact Nat.le_of_ble_eq_true rfl) (fun _ => rfl) rfl rfl ?_
      refine g_iinc (pc' := 171) C dX4_comes_168 rfl (ii1 _) rfl rfl ?_
      refine g_goto (tgt := 9) C dX4_comes_171 (by decide) ?_
      refine G_pick [0, 1, 2, 3] rfl (ih (k + 1) _ _ (by first | exact ((((X.up22 (p := 0) (by omega) rfl).up _ (by omega)).up _ (by omega)).up _ (by omega)) | exact (((((X.up _ (by omega)).up22 (p := 0) (by omega) rfl).up _ (by omega)).up _ (by omega)).up _ (by omega))) (by simp only [upI_at]; simp; rw [msp_of (I := I) (by simp only [upI_at]; simp)]; exact hsa) (by rw [msp_of (I := I) (by simp only [upI_at]; simp)]; exact hs4) (by simp only [upI_at]; simp; rw [mfr_of (I := I) (by simp only [upI_at]; simp)]; exact hfa) (by rw [mfr_of (I := I) (by simp only [upI_at]; simp)]; exact hf9) (by simpa [upI_at] using hr) (by rw [ex3]; exact nI_1 k) (by omega) ?_)
      simpa [mCmL, mCmS, c1, c2, hp, hp2, c9, c10, c11, c12] using hpost
set_option maxRecDepth 20000 in
theorem l_X4_comes0 {K : wK} {z : wZ} {P : wP} {O : wO} {post : Option Value → wI → wP → Prop} {M N j m hr : Nat} {x x2 : Int32} (C : Cx K cX4_comes RX4 7 (none) { frames := 0, cells := 0, slots := 0, locals := 0 } z) (hR : Rx K z O post) (hx : x = nI j) (hj24 : j < 24) (hm2 : x2 = nI m) (hm12 : m < 12) (hr4 : hr ≤ 4) : ∀ (n k : Nat) (x3 : Int32) (I : wI), MI M N I → I 13 17 j = -1 → I 13 19 j = nI hr → x3 = nI k → k + n = hr → post none (mC0L j m n k I) P → G K z I P O 0 0 9 [(0, .ref ((Kg K).2.2 12 0)), (1, .int x), (2, .int x2), (3, .int x3)] [] := by
  intro n
  induction n with
  | zero =>
    intro k x3 I X hsn hr ex3 hk hpost
    refine g_iload_n (pc' := 10) C dX4_comes_9 rfl rfl ?_
    refine g_aload_n (pc' := 11) C dX4_comes_10 rfl rfl ?_
    refine f_X4_56 (pc' := 14) C dX4_comes_11 (by first | assumption | exact rfl | exact al13 rfl | exact Nat.le_of_ble_eq_true rfl) rfl ?_
    refine g_iload_n (pc' := 15) C dX4_comes_14 rfl rfl ?_
    refine g_iald (pc' := 16) C (j) hx hj24 dX4_comes_15 (by first | assumption | exact rfl | exact al13 rfl | exact Nat.le_of_ble_eq_true rfl) rfl rfl rfl ?_
    refine g_icmp_ge (tgt := 174) (pc' := 19) C dX4_comes_16 (by decide) rfl (fun c1 => ?_) (fun c1 => absurd (by rw [hr, ex3, show k = _ by omega]; exact Int32.le_refl _) c1)
    exact g_vret C hR dX4_comes_174 hpost
  | succ n ih =>
    intro k x3 I X hsn hr ex3 hk hpost
    have h4 : 4 * j + k < 96 := by omega
    refine g_iload_n (pc' := 10) C dX4_comes_9 rfl rfl ?_
    refine g_aload_n (pc' := 11) C dX4_comes_10 rfl rfl ?_
    refine f_X4_56 (pc' := 14) C dX4_comes_11 (by first | assumption | exact rfl | exact al13 rfl | exact Nat.le_of_ble_eq_true rfl) rfl ?_
    refine g_iload_n (pc' := 15) C dX4_comes_14 rfl rfl ?_
    refine g_iald (pc' := 16) C (j) hx hj24 dX4_comes_15 (by first | assumption | exact rfl | exact al13 rfl | exact Nat.le_of_ble_eq_true rfl) rfl rfl rfl ?_
    refine g_icmp_ge (tgt := 174) (pc' := 19) C dX4_comes_16 (by decide) rfl (fun c1 => absurd c1 (by rw [hr, ex3]; exact nI_ge (by omega) (by omega))) (fun c1 => ?_)
    refine g_iconst (v := 0) (pc' := 20) C dX4_comes_19 (by decide) rfl ?_
    refine g_istore (pc' := 22) C dX4_comes_20 rfl rfl ?_
    refine g_aload_n (pc' := 23) C dX4_comes_22 rfl rfl ?_
    refine f_X4_50 (pc' := 26) C dX4_comes_23 (by first | assumption | exact rfl | exact al13 rfl | exact Nat.le_of_ble_eq_true rfl) rfl ?_
    refine g_iload_n (pc' := 27) C dX4_comes_26 rfl rfl ?_
    refine g_iald (pc' := 28) C (j) hx hj24 dX4_comes_27 (by first | assumption | exact rfl | exact al13 rfl | exact Nat.le_of_ble_eq_true rfl) rfl rfl rfl ?_
    refine g_iconst (v := (-1)) (pc' := 29) C dX4_comes_28 (by decide) rfl ?_
    refine g_icmp_eq (tgt := 145) (pc' := 32) C dX4_comes_29 (by decide) rfl (fun c2 => ?_) (fun c2 => absurd hsn c2)
    refine g_aload_n (pc' := 146) C dX4_comes_145 rfl rfl ?_
    refine f_X4_62 (pc' := 149) C dX4_comes_146 (by first | assumption | exact rfl | exact al13 rfl | exact Nat.le_of_ble_eq_true rfl) rfl ?_
    refine g_iconst (v := 4) (pc' := 150) C dX4_comes_149 (by decide) rfl ?_
    refine g_iload_n (pc' := 151) C dX4_comes_150 rfl rfl ?_
    refine g_imul (pc' := 152) C dX4_comes_151 rfl ?_
    refine g_iload_n (pc' := 153) C dX4_comes_152 rfl rfl ?_
    refine g_iadd (pc' := 154) C dX4_comes_153 rfl ?_
    refine g_iload (pc' := 156) C dX4_comes_154 rfl rfl ?_
    refine g_iast (pc' := 157) C (4 * j + k) (by rw [hx, ex3]; exact ix4 _ _) h4 dX4_comes_156 (by first | assumption | exact rfl | exact al13 rfl | exact Nat.le_of_ble_eq_true rfl) (fun _ => rfl) rfl rfl ?_
    refine g_aload_n (pc' := 158) C dX4_comes_157 rfl rfl ?_
    refine f_X4_35 (pc' := 161) C dX4_comes_158 (by first | assumption | exact rfl | exact al13 rfl | exact Nat.le_of_ble_eq_true rfl) rfl ?_
    refine g_iload_n (pc' := 162) C dX4_comes_161 rfl rfl ?_
    refine g_dup2 (pc' := 163) C dX4_comes_162 rfl rfl rfl ?_
    refine g_iald (pc' := 164) C (m) hm2 hm12 dX4_comes_163 (by first | assumption | exact rfl | exact al13 rfl | exact Nat.le_of_ble_eq_true rfl) rfl rfl rfl ?_
    refine g_iload (pc' := 166) C dX4_comes_164 rfl rfl ?_
    refine g_isub (pc' := 167) C dX4_comes_166 rfl ?_
    refine g_iast (pc' := 168) C (m) hm2 hm12 dX4_comes_167 (by first | assumption | exact rfl | exact al13 rfl | exact Nat.le_of_ble_eq_true rfl) (fun _ => rfl) rfl rfl ?_
    refine g_iinc (pc' := 171) C dX4_comes_168 rfl (ii1 _) rfl rfl ?_
    refine g_goto (tgt := 9) C dX4_comes_171 (by decide) ?_
    exact G_pick [0, 1, 2, 3] rfl (ih (k + 1) _ _ ((X.up _ (by omega)).up _ (by omega)) (by simpa [upI_at] using hsn) (by simpa [upI_at] using hr) (by rw [ex3]; exact nI_1 k) (by omega) hpost)
set_option maxRecDepth 20000 in
theorem m_X4_comes {l : Launch} {g : wG} {z : wZ} {I : wI} {P : wP} {O : wO} {M N j : Nat} {x : Int32} (X : MI M N I) (hx : x = nI j) (hj : j < N) : RT l yX4_comes cX4_comes 7 (none) { frames := 0, cells := 0, slots := 0, locals := 0 } g z [.ref (g.2.2 12 0), .int x] I P O (dp (none) (mCm j I) (P)) := by
  refine RT.of (own := RX4) rfl (by decide +kernel) (Nat.le_of_ble_eq_true rfl) rfl (fun K C hl hg hR => ?_)
  subst hl
  subst hg
  have hj24 : j < 24 := by have := X.2.1; omega
  have hr := X.hr hj
  have hr4 := X.hr4 hj
  refine g_aload_n (pc' := 1) C dX4_comes_0 rfl rfl ?_
  refine f_X4_44 (pc' := 4) C dX4_comes_1 (by first | assumption | exact rfl | exact al13 rfl | exact Nat.le_of_ble_eq_true rfl) rfl ?_
  refine g_iload_n (pc' := 5) C dX4_comes_4 rfl rfl ?_
  refine g_iald (pc' := 6) C (j) hx hj24 dX4_comes_5 (by first | assumption | exact rfl | exact al13 rfl | exact Nat.le_of_ble_eq_true rfl) rfl rfl rfl ?_
  refine g_istore_n (pc' := 7) C dX4_comes_6 rfl rfl ?_
  refine g_iconst (v := 0) (pc' := 8) C dX4_comes_7 (by decide) rfl ?_
  refine g_istore_n (pc' := 9) C dX4_comes_8 rfl rfl ?_
  by_cases hc : I 13 17 j = -1
  · skip
    refine l_X4_comes0 C hR hx hj24 (X.mt hj) (X.mt2 hj) hr4 (mh I j) 0 0 I X hc hr nI_0.symm (by omega) ⟨rfl, ?_, rfl⟩
    simp [mCm, hc]
  · skip
    refine l_X4_comes C hR hx hj24 (X.mt hj) (X.mtM hj) (X.mt2 hj) hr4 (mh I j) 0 0 I X ((X.sp hj).resolve_left hc).1 ((X.sp hj).resolve_left hc).2 (X.fr hj).1 (X.fr hj).2 hr nI_0.symm (by omega) ⟨rfl, ?_, rfl⟩
    simp [mCm, hc]
set_option maxRecDepth 20000 in
theorem l_X4_toComeI {K : wK} {z : wZ} {P : wP} {O : wO} {post : Option Value → wI → wP → Prop} {I : wI} {k : Nat} {x x3 : Int32} (C : Cx K cX4_toCome RX4 5 ((some .int)) { frames := 0, cells := 0, slots := 0, locals := 0 } z) (hR : Rx K z O post) (hk4 : k < 4) (ex3 : x3 = nI k) {v : Int32 → Prop} (ihO : ∀ (x2 : Int32) (x4 : Int32), v x2 → G K z I P O 0 0 4 (st1 [(0, .ref ((Kg K).2.2 12 0)), (1, .int x), (2, .int x2), (3, .int x3), (4, .int x4)] 3 (.int (x3 + 1))) []) : ∀ (n t : Nat) (x2 x4 : Int32), x4 = nI t → t + n = 1004 → v (tcI I x k n t x2) → G K z I P O 0 0 17 [(0, .ref ((Kg K).2.2 12 0)), (1, .int x), (2, .int x2), (3, .int x3), (4, .int x4)] [] := by
  intro n
  induction n with
  | zero =>
    intro t x2 x4 ex4 hk hpost
    refine g_iload (pc' := 19) C dX4_toCome_17 rfl rfl ?_
    refine g_sipush (v := 1004) (pc' := 22) C dX4_toCome_19 (by decide) rfl ?_
    refine g_icmp_ge (tgt := 58) (pc' := 25) C dX4_toCome_22 (by decide) rfl (fun c1 => ?_) (fun c1 => absurd (by rw [ex4, show t = 1004 by omega]; decide) c1)
    refine g_iinc (pc' := 61) C dX4_toCome_58 rfl (ii1 _) rfl rfl ?_
    refine g_goto (tgt := 4) C dX4_toCome_61 (by decide) ?_
    exact ihO _ _ hpost
  | succ n ih =>
    intro t x2 x4 ex4 hk hpost
    have hkt : 1004 * k + t < 4016 := by omega
    refine g_iload (pc' := 19) C dX4_toCome_17 rfl rfl ?_
    refine g_sipush (v := 1004) (pc' := 22) C dX4_toCome_19 (by decide) rfl ?_
    refine g_icmp_ge (tgt := 58) (pc' := 25) C dX4_toCome_22 (by decide) rfl (fun c1 => absurd c1 (by rw [ex4]; exact nI_ge (a := t) (b := 1004) (by omega) (by decide))) (fun c1 => ?_)
    refine g_iload_n (pc' := 26) C dX4_toCome_25 rfl rfl ?_
    refine g_aload_n (pc' := 27) C dX4_toCome_26 rfl rfl ?_
    refine f_X4_65 (pc' := 30) C dX4_toCome_27 (by first | assumption | exact rfl | exact al13 rfl | exact Nat.le_of_ble_eq_true rfl) rfl ?_
    refine g_sipush (v := 1004) (pc' := 33) C dX4_toCome_30 (by decide) rfl ?_
    refine g_iload_n (pc' := 34) C dX4_toCome_33 rfl rfl ?_
    refine g_imul (pc' := 35) C dX4_toCome_34 rfl ?_
    refine g_iload (pc' := 37) C dX4_toCome_35 rfl rfl ?_
    refine g_iadd (pc' := 38) C dX4_toCome_37 rfl ?_
    refine g_iald (pc' := 39) C (1004 * k + t) (by rw [ex3, ex4, ← nI_add, ← pk_mul]; rfl) hkt dX4_toCome_38 (by first | assumption | exact rfl | exact al13 rfl | exact Nat.le_of_ble_eq_true rfl) rfl rfl rfl ?_
    refine g_iload_n (pc' := 40) C dX4_toCome_39 rfl rfl ?_
    refine g_iconst (v := 1) (pc' := 41) C dX4_toCome_40 (by decide) rfl ?_
    refine g_iadd (pc' := 42) C dX4_toCome_41 rfl ?_
    refine g_icmp_ne (tgt := 49) (pc' := 45) C dX4_toCome_42 (by decide) rfl (fun c2 => ?_) (fun c2 => ?_)
    ·
      refine g_iconst (v := 0) (pc' := 50) C dX4_toCome_49 (by decide) rfl ?_
      refine g_iadd (pc' := 51) C dX4_toCome_50 rfl ?_
      refine g_istore_n (pc' := 52) C dX4_toCome_51 rfl rfl ?_
      refine g_iinc (pc' := 55) C dX4_toCome_52 rfl (ii1 _) rfl rfl ?_
      refine g_goto (tgt := 17) C dX4_toCome_55 (by decide) ?_
      refine G_pick [0, 1, 2, 3, 4] rfl (ih (t + 1) _ _ (by rw [ex4]; exact nI_1 t) (by omega) ?_)
      simpa [tcI, c1, c2] using hpost
    ·
      refine g_iconst (v := 1) (pc' := 46) C dX4_toCome_45 (by decide) rfl ?_
      refine g_goto (tgt := 50) C dX4_toCome_46 (by decide) ?_
      refine g_iadd (pc' := 51) C dX4_toCome_50 rfl ?_
      refine g_istore_n (pc' := 52) C dX4_toCome_51 rfl rfl ?_
      refine g_iinc (pc' := 55) C dX4_toCome_52 rfl (ii1 _) rfl rfl ?_
      refine g_goto (tgt := 17) C dX4_toCome_55 (by decide) ?_
      refine G_pick [0, 1, 2, 3, 4] rfl (ih (t + 1) _ _ (by rw [ex4]; exact nI_1 t) (by omega) ?_)
      simpa [tcI, c1, c2] using hpost
set_option maxRecDepth 20000 in
theorem l_X4_toCome {K : wK} {z : wZ} {P : wP} {O : wO} {post : Option Value → wI → wP → Prop} {I : wI} {nw : Nat} {x : Int32} (C : Cx K cX4_toCome RX4 5 ((some .int)) { frames := 0, cells := 0, slots := 0, locals := 0 } z) (hR : Rx K z O post) (hnow : I 12 0 1 = nI nw) (hnw : nw ≤ 1000) : ∀ (n k : Nat) (x2 x3 : Int32), x3 = nI k → k + n = 4 → post (some (.int (tcO I x nw n k x2))) I P → G K z I P O 0 0 4 [(0, .ref ((Kg K).2.2 12 0)), (1, .int x), (2, .int x2), (3, .int x3)] [] := by
  intro n
  induction n with
  | zero =>
    intro k x2 x3 ex3 hk hpost
    refine g_iload_n (pc' := 5) C dX4_toCome_4 rfl rfl ?_
    refine g_iconst (v := 4) (pc' := 6) C dX4_toCome_5 (by decide) rfl ?_
    refine g_icmp_ge (tgt := 64) (pc' := 9) C dX4_toCome_6 (by decide) rfl (fun c1 => ?_) (fun c1 => absurd (by rw [ex3, show k = 4 by omega]; decide) c1)
    refine g_iload_n (pc' := 65) C dX4_toCome_64 rfl rfl ?_
    exact g_iret C hR dX4_toCome_65 hpost
  | succ n ih =>
    intro k x2 x3 ex3 hk hpost
    refine g_iload_n (pc' := 5) C dX4_toCome_4 rfl rfl ?_
    refine g_iconst (v := 4) (pc' := 6) C dX4_toCome_5 (by decide) rfl ?_
    refine g_icmp_ge (tgt := 64) (pc' := 9) C dX4_toCome_6 (by decide) rfl (fun c1 => absurd c1 (by rw [ex3]; exact nI_ge (a := k) (b := 4) (by omega) (by decide))) (fun c1 => ?_)
    refine g_aload_n (pc' := 10) C dX4_toCome_9 rfl rfl ?_
    refine f_X4_85 (pc' := 13) C dX4_toCome_10 (by first | assumption | exact rfl | exact al13 rfl | exact Nat.le_of_ble_eq_true rfl) rfl ?_
    refine g_iconst (v := 1) (pc' := 14) C dX4_toCome_13 (by decide) rfl ?_
    refine g_iadd (pc' := 15) C dX4_toCome_14 rfl ?_
    refine g_istore (pc' := 17) C dX4_toCome_15 rfl rfl ?_
    exact l_X4_toComeI C hR (by omega) ex3 (v := fun y => post (some (.int (tcO I x nw n (k + 1) y))) I P) (fun y x4 hv => G_pick [0, 1, 2, 3] rfl (ih (k + 1) _ _ (by rw [ex3]; exact nI_1 k) (by omega) hv)) (1003 - nw) (nw + 1) _ _ (by rw [hnow]; exact nI_1 nw) (by omega) hpost
set_option maxRecDepth 20000 in
theorem m_X4_toCome {l : Launch} {g : wG} {z : wZ} {I : wI} {P : wP} {O : wO} {nw : Nat} {x : Int32} (hnow : I 12 0 1 = nI nw) (hnw : nw ≤ 1000) : RT l yX4_toCome cX4_toCome 5 ((some .int)) { frames := 0, cells := 0, slots := 0, locals := 0 } g z [.ref (g.2.2 12 0), .int x] I P O (dp (some (.int (tcO I x nw 4 0 0))) (I) (P)) := by
  refine RT.of (own := RX4) rfl (by decide +kernel) (Nat.le_of_ble_eq_true rfl) rfl (fun K C hl hg hR => ?_)
  subst hl
  subst hg
  refine g_iconst (v := 0) (pc' := 1) C dX4_toCome_0 (by decide) rfl ?_
  refine g_istore_n (pc' := 2) C dX4_toCome_1 rfl rfl ?_
  refine g_iconst (v := 0) (pc' := 3) C dX4_toCome_2 (by decide) rfl ?_
  refine g_istore_n (pc' := 4) C dX4_toCome_3 rfl rfl ?_
  exact l_X4_toCome C hR hnow hnw 4 0 0 0 nI_0.symm rfl ⟨rfl, rfl, rfl⟩
end WModel2
