section WModel
theorem thv (I : wI) (v : Int32) : upI I 12 0 0 v 12 0 0 = v := by rw [upI_at]; simp
def inR (x lo hi : Int32) : Bool := !decide (x < lo) && !decide (hi < x)
def mm (I : wI) (h : Nat) : Nat := (I 13 15 h).toNatClampNeg
def mh (I : wI) (h : Nat) : Nat := (I 13 19 h).toNatClampNeg
def mf (I : wI) (m : Nat) : Nat := (I 13 8 m).toNatClampNeg
def mfr (I : wI) (h : Nat) : Nat := (I 13 18 h).toNatClampNeg
def msp (I : wI) (h : Nat) : Nat := (I 13 17 h).toNatClampNeg
def mpy (I : wI) (q : Nat) : Nat := (I 13 22 q).toNatClampNeg
/-- the numbers of the other side: M things, N meetings -/
def MI (M N : Nat) (I : wI) : Prop := M ≤ 12 ∧ N ≤ 24 ∧ I 12 0 5 = nI M ∧ I 12 0 13 = nI N ∧ (∀ h, h < N → I 13 15 h = nI (mm I h) ∧ mm I h < M) ∧ (∀ h, h < N → I 13 19 h = nI (mh I h) ∧ mh I h ≤ 4) ∧ (∀ h, h < N → I 13 17 h = -1 ∨ (I 13 17 h = nI (msp I h) ∧ msp I h < 4)) ∧ (∀ h, h < N → I 13 18 h = nI (mfr I h) ∧ mfr I h ≤ 999) ∧ (∀ m, m < M → I 13 8 m = nI (mf I m) ∧ mf I m < 6) ∧ (∀ q, q < 4016 → I 13 22 q = nI (mpy I q) ∧ mpy I q ≤ M)
theorem MI.mt {M N : Nat} {I : wI} (X : MI M N I) {h : Nat} (hh : h < N) : I 13 15 h = nI (mm I h) := (X.2.2.2.2.1 h hh).1
theorem MI.mt2 {M N : Nat} {I : wI} (X : MI M N I) {h : Nat} (hh : h < N) : mm I h < 12 := by have := (X.2.2.2.2.1 h hh).2; have := X.1; omega
theorem MI.mtM {M N : Nat} {I : wI} (X : MI M N I) {h : Nat} (hh : h < N) : mm I h < M := (X.2.2.2.2.1 h hh).2
theorem MI.hr {M N : Nat} {I : wI} (X : MI M N I) {h : Nat} (hh : h < N) : I 13 19 h = nI (mh I h) := (X.2.2.2.2.2.1 h hh).1
theorem MI.hr4 {M N : Nat} {I : wI} (X : MI M N I) {h : Nat} (hh : h < N) : mh I h ≤ 4 := (X.2.2.2.2.2.1 h hh).2
theorem MI.sp {M N : Nat} {I : wI} (X : MI M N I) {h : Nat} (hh : h < N) : I 13 17 h = -1 ∨ (I 13 17 h = nI (msp I h) ∧ msp I h < 4) := X.2.2.2.2.2.2.1 h hh
theorem MI.fr {M N : Nat} {I : wI} (X : MI M N I) {h : Nat} (hh : h < N) : I 13 18 h = nI (mfr I h) ∧ mfr I h ≤ 999 := X.2.2.2.2.2.2.2.1 h hh
theorem MI.fs {M N : Nat} {I : wI} (X : MI M N I) {m : Nat} (hm : m < M) : I 13 8 m = nI (mf I m) ∧ mf I m < 6 := X.2.2.2.2.2.2.2.2.1 m hm
theorem MI.py {M N : Nat} {I : wI} (X : MI M N I) {q : Nat} (hq : q < 4016) : I 13 22 q = nI (mpy I q) ∧ mpy I q ≤ M := X.2.2.2.2.2.2.2.2.2 q hq
theorem MI.of {M N : Nat} {I I' : wI} (X : MI M N I) (h5 : I' 12 0 5 = I 12 0 5) (h13 : I' 12 0 13 = I 12 0 13) (hr : ∀ f, f = 15 ∨ f = 19 ∨ f = 17 ∨ f = 18 ∨ f = 8 → I' 13 f = I 13 f) (hp : ∀ q, q < 4016 → ∃ p, p ≤ M ∧ I' 13 22 q = nI p) : MI M N I' := by
  obtain ⟨a, b, c, d, e, f, g, h, i, j⟩ := X
  refine ⟨a, b, h5.trans c, h13.trans d, ?_, ?_, ?_, ?_, ?_, fun q hq => ?_⟩
  · unfold mm; rw [hr 15 (by omega)]; exact e
  · unfold mh; rw [hr 19 (by omega)]; exact f
  · unfold msp; rw [hr 17 (by omega)]; exact g
  · unfold mfr; rw [hr 18 (by omega)]; exact h
  · unfold mf; rw [hr 8 (by omega)]; exact i
  · obtain ⟨p, h1, h2⟩ := hp q hq
    unfold mpy
    rw [h2, nI_clamp (by omega)]
    exact ⟨rfl, h1⟩
theorem MI.up {M N : Nat} {I : wI} (X : MI M N I) {k j c : Nat} (v : Int32) (h : (k = 12 ∧ c ≠ 5 ∧ c ≠ 13) ∨ (k = 13 ∧ j ≠ 15 ∧ j ≠ 19 ∧ j ≠ 17 ∧ j ≠ 18 ∧ j ≠ 8 ∧ j ≠ 22) ∨ k < 12) : MI M N (upI I k j c v) := X.of (by rw [upI_at, if_neg (by omega)]) (by rw [upI_at, if_neg (by omega)]) (fun f hf => upI_off I v (by omega)) (fun q hq => ⟨mpy I q, (X.py hq).2, by rw [upI_at, if_neg (by omega)]; exact (X.py hq).1⟩)
theorem MI.up22 {M N : Nat} {I : wI} (X : MI M N I) {c p : Nat} (hp : p ≤ M) {v : Int32} (hv : v = nI p) : MI M N (upI I 13 22 c v) := X.of (by rw [upI_at, if_neg (by omega)]) (by rw [upI_at, if_neg (by omega)]) (fun f hf => upI_off I v (by omega)) (fun q hq => by
  rw [upI_at]
  split
  · exact ⟨p, hp, hv⟩
  · exact ⟨mpy I q, (X.py hq).2, (X.py hq).1⟩)
theorem nI_m1 (M : Nat) (h : M < 2 ^ 30) : (nI M - 1).toInt = (M : Int) - 1 := by
  have := pk_sub_toInt (a := M) (b := 1) h (by omega)
  exact this
theorem inR_T {j M : Nat} (hj : j < M) (hM : M < 2 ^ 30) : inR (nI j) 0 (nI M - 1) = true := by
  have h1 : ¬ nI j < 0 := nI_pos (by omega)
  have h2 : ¬ nI M - 1 < nI j := by rw [Int32.lt_iff_toInt_lt, nI_m1 M hM, nI_toInt (by omega)]; omega
  simp [inR, h1, h2]
theorem inR_F {x : Int32} {M : Nat} (h : x < 0 ∨ nI M ≤ x) (hM : M < 2 ^ 30) : inR x 0 (nI M - 1) = false := by
  by_cases h0 : x < 0
  · simp [inR, h0]
  · have h1 := h.resolve_left h0
    have h2 : nI M - 1 < x := by
      rw [Int32.le_iff_toInt_le, nI_toInt (by omega)] at h1
      rw [Int32.lt_iff_toInt_lt, nI_m1 M hM]; omega
    simp [inR, h0, h2]
def mOp (I : wI) (m : Nat) : Bool := isOp (I 13 6 m)
def mt4 (a many b more : Int32) : Bool := !decide (b + more ≤ a) && !decide (a + many ≤ b)
def mFit (I : wI) (m : Nat) (who : Int32) : Bool := if I 13 10 m = -1 then decide (who = -1) else (!decide (who = -1)) && decide ((I 13 2 who.toNatClampNeg >>> (I 13 10 m &&& 31)) &&& 1 = 1)
def mSame (I : wI) (what : Int32) (m : Nat) (wh who : Int32) (h : Nat) : Bool := if what = 1 then decide (I 13 16 h = wh) else if what = 2 then decide (I 13 7 (mm I h) = I 13 7 m) else if what = 3 then decide (I 13 8 (mm I h) = I 13 8 m ∨ I 13 8 (mm I h) = I 13 9 m ∨ I 13 9 (mm I h) = I 13 8 m ∨ I 13 9 (mm I h) = I 13 9 m) else decide (¬ who = -1 ∧ I 13 17 h = who)
def mClS (I : wI) (what : Int32) (m : Nat) (wh who at1 many but : Int32) (h : Nat) (b : Bool) : Bool := b || (!decide (nI h = but) && (decide (I 13 14 h = 0) && (mSame I what m wh who h && mt4 (I 13 18 h) (I 13 19 h) at1 many)))
def mClL (I : wI) (what : Int32) (m : Nat) (wh who at1 many but : Int32) : Nat → Nat → Bool → Bool
  | 0, _, b => b
  | n + 1, h, b => mClL I what m wh who at1 many but n (h + 1) (mClS I what m wh who at1 many but h b)
def mRe (I : wI) (N m : Nat) (wh who at1 many but : Int32) : Int32 := if mClL I 1 m wh who at1 many but N 0 false = true then 1 else if mClL I 2 m wh who at1 many but N 0 false = true then 2 else if mClL I 3 m wh who at1 many but N 0 false = true then 3 else if mClL I 4 m wh who at1 many but N 0 false = true then 4 else 0
set_option maxRecDepth 20000 in
theorem m_X4_thrown {l : Launch} {g : wG} {z : wZ} {I : wI} {P : wP} {O : wO} : RT l yX4_thrown cX4_thrown 1 ((some .int)) { frames := 0, cells := 0, slots := 0, locals := 0 } g z [.ref (g.2.2 12 0)] I P O (dp (some (.int (I 12 0 0))) (I) (P)) := by
  refine RT.of (own := RX4) rfl (by decide +kernel) (Nat.le_of_ble_eq_true rfl) rfl (fun K C hl hg hR => ?_)
  subst hl
  subst hg
  refine g_aload_n (pc' := 1) C dX4_thrown_0 rfl rfl ?_
  refine f_X4_71 (pc' := 4) C dX4_thrown_1 (by first | assumption | exact rfl | exact al13 rfl | exact Nat.le_of_ble_eq_true rfl) rfl ?_
  exact g_iret C hR dX4_thrown_4 ⟨rfl, rfl, rfl⟩
set_option maxRecDepth 20000 in
theorem m_X4_in {l : Launch} {g : wG} {z : wZ} {I : wI} {P : wP} {O : wO} {x y w : Int32} : RT l yX4_in cX4_in 3 ((some .boolean)) { frames := 0, cells := 0, slots := 0, locals := 0 } g z [.int x, .int y, .int w] I P O (dp (some (.int (b2 (inR x y w)))) (I) (P)) := by
  refine RT.of (own := RX4) rfl (by decide +kernel) (Nat.le_of_ble_eq_true rfl) rfl (fun K C hl hg hR => ?_)
  subst hl
  subst hg
  refine g_iload_n (pc' := 1) C dX4_in_0 rfl rfl ?_
  refine g_iload_n (pc' := 2) C dX4_in_1 rfl rfl ?_
  refine g_icmp_lt (tgt := 14) (pc' := 5) C dX4_in_2 (by decide) rfl (fun c1 => ?_) (fun c1 => ?_)
  ·
    refine g_iconst (v := 0) (pc' := 15) C dX4_in_14 (by decide) rfl ?_
    exact g_zret C hR dX4_in_15 rfl ⟨by simp [b2, inR, c1], rfl, rfl⟩
  ·
    refine g_iload_n (pc' := 6) C dX4_in_5 rfl rfl ?_
    refine g_iload_n (pc' := 7) C dX4_in_6 rfl rfl ?_
    refine g_icmp_gt (tgt := 14) (pc' := 10) C dX4_in_7 (by decide) rfl (fun c2 => ?_) (fun c2 => ?_)
    ·
      refine g_iconst (v := 0) (pc' := 15) C dX4_in_14 (by decide) rfl ?_
      exact g_zret C hR dX4_in_15 rfl ⟨by simp [b2, inR, c1, c2], rfl, rfl⟩
    ·
      refine g_iconst (v := 1) (pc' := 11) C dX4_in_10 (by decide) rfl ?_
      refine g_goto (tgt := 15) C dX4_in_11 (by decide) ?_
      exact g_zret C hR dX4_in_15 rfl ⟨by simp [b2, inR, c1, c2], rfl, rfl⟩
set_option maxRecDepth 20000 in
theorem m_X4_isMatterS {l : Launch} {g : wG} {z : wZ} {I : wI} {P : wP} {O : wO} {M N j : Nat} {x : Int32} (X : MI M N I) (hj : x = nI j) (hjM : j < M) : RT l yX4_isMatter cX4_isMatter 2 ((some .boolean)) { frames := 1, cells := 0, slots := 0, locals := 22 } g z [.ref (g.2.2 12 0), .int x] I P O (dp (some (.int 1)) (I) (P)) := by
  refine RT.of (own := RX4) rfl (by decide +kernel) (Nat.le_of_ble_eq_true rfl) rfl (fun K C hl hg hR => ?_)
  subst hl
  subst hg
  refine g_iload_n (pc' := 1) C dX4_isMatter_0 rfl rfl ?_
  refine g_iconst (v := 0) (pc' := 2) C dX4_isMatter_1 (by decide) rfl ?_
  refine g_aload_n (pc' := 3) C dX4_isMatter_2 rfl rfl ?_
  refine f_X4_75 (pc' := 6) C dX4_isMatter_3 (by first | assumption | exact rfl | exact al13 rfl | exact Nat.le_of_ble_eq_true rfl) rfl ?_
  refine g_iconst (v := 1) (pc' := 7) C dX4_isMatter_6 (by decide) rfl ?_
  refine g_isub (pc' := 8) C dX4_isMatter_7 rfl ?_
  refine k_X4_78 (pc' := 11) C (m_X4_in) dX4_isMatter_8 ⟨⟨Nat.le_of_ble_eq_true rfl, Nat.le_of_ble_eq_true rfl⟩, rfl, rfl⟩ (Nat.le_of_ble_eq_true rfl) ⟨Nat.zero_le _, Nat.zero_le _⟩ rfl ?_
  exact g_zret C hR dX4_isMatter_11 (b2_n _) ⟨by rw [X.2.2.1, hj, inR_T hjM (by have := X.1; have := X.2.1; omega)]; rfl, rfl, rfl⟩
set_option maxRecDepth 20000 in
theorem m_X4_isMatterN {l : Launch} {g : wG} {z : wZ} {I : wI} {P : wP} {O : wO} {M N : Nat} {x : Int32} (X : MI M N I) (h : x < 0 ∨ nI M ≤ x) : RT l yX4_isMatter cX4_isMatter 2 ((some .boolean)) { frames := 1, cells := 0, slots := 0, locals := 22 } g z [.ref (g.2.2 12 0), .int x] I P O (dp (some (.int 0)) (I) (P)) := by
  refine RT.of (own := RX4) rfl (by decide +kernel) (Nat.le_of_ble_eq_true rfl) rfl (fun K C hl hg hR => ?_)
  subst hl
  subst hg
  refine g_iload_n (pc' := 1) C dX4_isMatter_0 rfl rfl ?_
  refine g_iconst (v := 0) (pc' := 2) C dX4_isMatter_1 (by decide) rfl ?_
  refine g_aload_n (pc' := 3) C dX4_isMatter_2 rfl rfl ?_
  refine f_X4_75 (pc' := 6) C dX4_isMatter_3 (by first | assumption | exact rfl | exact al13 rfl | exact Nat.le_of_ble_eq_true rfl) rfl ?_
  refine g_iconst (v := 1) (pc' := 7) C dX4_isMatter_6 (by decide) rfl ?_
  refine g_isub (pc' := 8) C dX4_isMatter_7 rfl ?_
  refine k_X4_78 (pc' := 11) C (m_X4_in) dX4_isMatter_8 ⟨⟨Nat.le_of_ble_eq_true rfl, Nat.le_of_ble_eq_true rfl⟩, rfl, rfl⟩ (Nat.le_of_ble_eq_true rfl) ⟨Nat.zero_le _, Nat.zero_le _⟩ rfl ?_
  exact g_zret C hR dX4_isMatter_11 (b2_n _) ⟨by rw [X.2.2.1, inR_F h (by have := X.1; have := X.2.1; omega)]; rfl, rfl, rfl⟩
set_option maxRecDepth 20000 in
theorem m_X4_isHearingS {l : Launch} {g : wG} {z : wZ} {I : wI} {P : wP} {O : wO} {M N j : Nat} {x : Int32} (X : MI M N I) (hj : x = nI j) (hjM : j < N) : RT l yX4_isHearing cX4_isHearing 2 ((some .boolean)) { frames := 1, cells := 0, slots := 0, locals := 22 } g z [.ref (g.2.2 12 0), .int x] I P O (dp (some (.int 1)) (I) (P)) := by
  refine RT.of (own := RX4) rfl (by decide +kernel) (Nat.le_of_ble_eq_true rfl) rfl (fun K C hl hg hR => ?_)
  subst hl
  subst hg
  refine g_iload_n (pc' := 1) C dX4_isHearing_0 rfl rfl ?_
  refine g_iconst (v := 0) (pc' := 2) C dX4_isHearing_1 (by decide) rfl ?_
  refine g_aload_n (pc' := 3) C dX4_isHearing_2 rfl rfl ?_
  refine f_X4_82 (pc' := 6) C dX4_isHearing_3 (by first | assumption | exact rfl | exact al13 rfl | exact Nat.le_of_ble_eq_true rfl) rfl ?_
  refine g_iconst (v := 1) (pc' := 7) C dX4_isHearing_6 (by decide) rfl ?_
  refine g_isub (pc' := 8) C dX4_isHearing_7 rfl ?_
  refine k_X4_78 (pc' := 11) C (m_X4_in) dX4_isHearing_8 ⟨⟨Nat.le_of_ble_eq_true rfl, Nat.le_of_ble_eq_true rfl⟩, rfl, rfl⟩ (Nat.le_of_ble_eq_true rfl) ⟨Nat.zero_le _, Nat.zero_le _⟩ rfl ?_
  exact g_zret C hR dX4_isHearing_11 (b2_n _) ⟨by rw [X.2.2.2.1, hj, inR_T hjM (by have := X.1; have := X.2.1; omega)]; rfl, rfl, rfl⟩
set_option maxRecDepth 20000 in
theorem m_X4_isHearingN {l : Launch} {g : wG} {z : wZ} {I : wI} {P : wP} {O : wO} {M N : Nat} {x : Int32} (X : MI M N I) (h : x < 0 ∨ nI N ≤ x) : RT l yX4_isHearing cX4_isHearing 2 ((some .boolean)) { frames := 1, cells := 0, slots := 0, locals := 22 } g z [.ref (g.2.2 12 0), .int x] I P O (dp (some (.int 0)) (I) (P)) := by
  refine RT.of (own := RX4) rfl (by decide +kernel) (Nat.le_of_ble_eq_true rfl) rfl (fun K C hl hg hR => ?_)
  subst hl
  subst hg
  refine g_iload_n (pc' := 1) C dX4_isHearing_0 rfl rfl ?_
  refine g_iconst (v := 0) (pc' := 2) C dX4_isHearing_1 (by decide) rfl ?_
  refine g_aload_n (pc' := 3) C dX4_isHearing_2 rfl rfl ?_
  refine f_X4_82 (pc' := 6) C dX4_isHearing_3 (by first | assumption | exact rfl | exact al13 rfl | exact Nat.le_of_ble_eq_true rfl) rfl ?_
  refine g_iconst (v := 1) (pc' := 7) C dX4_isHearing_6 (by decide) rfl ?_
  refine g_isub (pc' := 8) C dX4_isHearing_7 rfl ?_
  refine k_X4_78 (pc' := 11) C (m_X4_in) dX4_isHearing_8 ⟨⟨Nat.le_of_ble_eq_true rfl, Nat.le_of_ble_eq_true rfl⟩, rfl, rfl⟩ (Nat.le_of_ble_eq_true rfl) ⟨Nat.zero_le _, Nat.zero_le _⟩ rfl ?_
  exact g_zret C hR dX4_isHearing_11 (b2_n _) ⟨by rw [X.2.2.2.1, inR_F h (by have := X.1; have := X.2.1; omega)]; rfl, rfl, rfl⟩
set_option maxRecDepth 20000 in
theorem m_X4_isSpeaker {l : Launch} {g : wG} {z : wZ} {I : wI} {P : wP} {O : wO} {x : Int32} : RT l yX4_isSpeaker cX4_isSpeaker 1 ((some .boolean)) { frames := 1, cells := 0, slots := 0, locals := 22 } g z [.int x] I P O (dp (some (.int (b2 (inR x (-1) 3)))) (I) (P)) := by
  refine RT.of (own := RX4) rfl (by decide +kernel) (Nat.le_of_ble_eq_true rfl) rfl (fun K C hl hg hR => ?_)
  subst hl
  subst hg
  refine g_iload_n (pc' := 1) C dX4_isSpeaker_0 rfl rfl ?_
  refine g_iconst (v := (-1)) (pc' := 2) C dX4_isSpeaker_1 (by decide) rfl ?_
  refine g_iconst (v := 3) (pc' := 3) C dX4_isSpeaker_2 (by decide) rfl ?_
  refine k_X4_78 (pc' := 6) C (m_X4_in) dX4_isSpeaker_3 ⟨⟨Nat.le_of_ble_eq_true rfl, Nat.le_of_ble_eq_true rfl⟩, rfl, rfl⟩ (Nat.le_of_ble_eq_true rfl) ⟨Nat.zero_le _, Nat.zero_le _⟩ rfl ?_
  exact g_zret C hR dX4_isSpeaker_6 (b2_n _) ⟨rfl, rfl, rfl⟩
set_option maxRecDepth 20000 in
theorem m_X4_meets {l : Launch} {g : wG} {z : wZ} {I : wI} {P : wP} {O : wO} {x y w v : Int32} : RT l yX4_meets cX4_meets 4 ((some .boolean)) { frames := 0, cells := 0, slots := 0, locals := 0 } g z [.int x, .int y, .int w, .int v] I P O (dp (some (.int (b2 (mt4 x y w v)))) (I) (P)) := by
  refine RT.of (own := RX4) rfl (by decide +kernel) (Nat.le_of_ble_eq_true rfl) rfl (fun K C hl hg hR => ?_)
  subst hl
  subst hg
  refine g_iload_n (pc' := 1) C dX4_meets_0 rfl rfl ?_
  refine g_iload_n (pc' := 2) C dX4_meets_1 rfl rfl ?_
  refine g_iload_n (pc' := 3) C dX4_meets_2 rfl rfl ?_
  refine g_iadd (pc' := 4) C dX4_meets_3 rfl ?_
  refine g_icmp_ge (tgt := 18) (pc' := 7) C dX4_meets_4 (by decide) rfl (fun c1 => ?_) (fun c1 => ?_)
  ·
    refine g_iconst (v := 0) (pc' := 19) C dX4_meets_18 (by decide) rfl ?_
    exact g_zret C hR dX4_meets_19 rfl ⟨by simp [b2, mt4, c1], rfl, rfl⟩
  ·
    refine g_iload_n (pc' := 8) C dX4_meets_7 rfl rfl ?_
    refine g_iload_n (pc' := 9) C dX4_meets_8 rfl rfl ?_
    refine g_iload_n (pc' := 10) C dX4_meets_9 rfl rfl ?_
    refine g_iadd (pc' := 11) C dX4_meets_10 rfl ?_
    refine g_icmp_ge (tgt := 18) (pc' := 14) C dX4_meets_11 (by decide) rfl (fun c2 => ?_) (fun c2 => ?_)
    ·
      refine g_iconst (v := 0) (pc' := 19) C dX4_meets_18 (by decide) rfl ?_
      exact g_zret C hR dX4_meets_19 rfl ⟨by simp [b2, mt4, c1, c2], rfl, rfl⟩
    ·
      refine g_iconst (v := 1) (pc' := 15) C dX4_meets_14 (by decide) rfl ?_
      refine g_goto (tgt := 19) C dX4_meets_15 (by decide) ?_
      exact g_zret C hR dX4_meets_19 rfl ⟨by simp [b2, mt4, c1, c2], rfl, rfl⟩
set_option maxRecDepth 20000 in
theorem m_X4_isOpen {l : Launch} {g : wG} {z : wZ} {I : wI} {P : wP} {O : wO} {m : Nat} {x : Int32} (hx : x = nI m) (hm : m < 12) : RT l yX4_isOpen cX4_isOpen 2 ((some .boolean)) { frames := 0, cells := 0, slots := 0, locals := 0 } g z [.ref (g.2.2 12 0), .int x] I P O (dp (some (.int (b2 (mOp I m)))) (I) (P)) := by
  refine RT.of (own := RX4) rfl (by decide +kernel) (Nat.le_of_ble_eq_true rfl) rfl (fun K C hl hg hR => ?_)
  subst hl
  subst hg
  refine g_aload_n (pc' := 1) C dX4_isOpen_0 rfl rfl ?_
  refine f_X4_20 (pc' := 4) C dX4_isOpen_1 (by first | assumption | exact rfl | exact al13 rfl | exact Nat.le_of_ble_eq_true rfl) rfl ?_
  refine g_iload_n (pc' := 5) C dX4_isOpen_4 rfl rfl ?_
  refine g_iald (pc' := 6) C (m) hx hm dX4_isOpen_5 (by first | assumption | exact rfl | exact al13 rfl | exact Nat.le_of_ble_eq_true rfl) rfl rfl rfl ?_
  refine g_if_eq (tgt := 19) (pc' := 9) C dX4_isOpen_6 (by decide) rfl (fun c1 => ?_) (fun c1 => ?_)
  ·
    refine g_iconst (v := 1) (pc' := 20) C dX4_isOpen_19 (by decide) rfl ?_
    refine g_goto (tgt := 24) C dX4_isOpen_20 (by decide) ?_
    exact g_zret C hR dX4_isOpen_24 rfl ⟨by simp [b2, mOp, isOp, c1], rfl, rfl⟩
  ·
    refine g_aload_n (pc' := 10) C dX4_isOpen_9 rfl rfl ?_
    refine f_X4_20 (pc' := 13) C dX4_isOpen_10 (by first | assumption | exact rfl | exact al13 rfl | exact Nat.le_of_ble_eq_true rfl) rfl ?_
    refine g_iload_n (pc' := 14) C dX4_isOpen_13 rfl rfl ?_
    refine g_iald (pc' := 15) C (m) hx hm dX4_isOpen_14 (by first | assumption | exact rfl | exact al13 rfl | exact Nat.le_of_ble_eq_true rfl) rfl rfl rfl ?_
    refine g_iconst (v := 1) (pc' := 16) C dX4_isOpen_15 (by decide) rfl ?_
    refine g_icmp_ne (tgt := 23) (pc' := 19) C dX4_isOpen_16 (by decide) rfl (fun c2 => ?_) (fun c2 => ?_)
    ·
      refine g_iconst (v := 0) (pc' := 24) C dX4_isOpen_23 (by decide) rfl ?_
      exact g_zret C hR dX4_isOpen_24 rfl ⟨by simp [b2, mOp, isOp, c1, c2], rfl, rfl⟩
    ·
      refine g_iconst (v := 1) (pc' := 20) C dX4_isOpen_19 (by decide) rfl ?_
      refine g_goto (tgt := 24) C dX4_isOpen_20 (by decide) ?_
      exact g_zret C hR dX4_isOpen_24 rfl ⟨by simp [b2, mOp, isOp, c1, c2], rfl, rfl⟩
set_option maxRecDepth 20000 in
theorem m_X4_fits {l : Launch} {g : wG} {z : wZ} {I : wI} {P : wP} {O : wO} {m : Nat} {x y : Int32} (hx : x = nI m) (hm : m < 12) (hy : y = -1 ∨ ∃ s, s < 4 ∧ y = nI s) : RT l yX4_fits cX4_fits 3 ((some .boolean)) { frames := 0, cells := 0, slots := 0, locals := 0 } g z [.ref (g.2.2 12 0), .int x, .int y] I P O (dp (some (.int (b2 (mFit I m y)))) (I) (P)) := by
  refine RT.of (own := RX4) rfl (by decide +kernel) (Nat.le_of_ble_eq_true rfl) rfl (fun K C hl hg hR => ?_)
  subst hl
  subst hg
  refine g_aload_n (pc' := 1) C dX4_fits_0 rfl rfl ?_
  refine f_X4_32 (pc' := 4) C dX4_fits_1 (by first | assumption | exact rfl | exact al13 rfl | exact Nat.le_of_ble_eq_true rfl) rfl ?_
  refine g_iload_n (pc' := 5) C dX4_fits_4 rfl rfl ?_
  refine g_iald (pc' := 6) C (m) hx hm dX4_fits_5 (by first | assumption | exact rfl | exact al13 rfl | exact Nat.le_of_ble_eq_true rfl) rfl rfl rfl ?_
  refine g_iconst (v := (-1)) (pc' := 7) C dX4_fits_6 (by decide) rfl ?_
  refine g_icmp_ne (tgt := 23) (pc' := 10) C dX4_fits_7 (by decide) rfl (fun c1 => ?_) (fun c1 => ?_)
  ·
    refine g_iload_n (pc' := 24) C dX4_fits_23 rfl rfl ?_
    refine g_iconst (v := (-1)) (pc' := 25) C dX4_fits_24 (by decide) rfl ?_
    refine g_icmp_eq (tgt := 51) (pc' := 28) C dX4_fits_25 (by decide) rfl (fun c2 => ?_) (fun c2 => ?_)
    ·
      refine g_iconst (v := 0) (pc' := 52) C dX4_fits_51 (by decide) rfl ?_
      exact g_zret C hR dX4_fits_52 rfl ⟨by simp [b2, mFit, c1, c2], rfl, rfl⟩
    ·
      obtain ⟨s, hs4, hs⟩ := hy.resolve_left c2
      have hcl : y.toNatClampNeg = s := by rw [hs]; exact nI_clamp (by omega)
      refine g_aload_n (pc' := 29) C dX4_fits_28 rfl rfl ?_
      refine f_X4_7 (pc' := 32) C dX4_fits_29 (by first | assumption | exact rfl | exact al13 rfl | exact Nat.le_of_ble_eq_true rfl) rfl ?_
      refine g_iload_n (pc' := 33) C dX4_fits_32 rfl rfl ?_
      refine g_iald (pc' := 34) C (s) hs hs4 dX4_fits_33 (by first | assumption | exact rfl | exact al13 rfl | exact Nat.le_of_ble_eq_true rfl) rfl rfl rfl ?_
      refine g_aload_n (pc' := 35) C dX4_fits_34 rfl rfl ?_
      refine f_X4_32 (pc' := 38) C dX4_fits_35 (by first | assumption | exact rfl | exact al13 rfl | exact Nat.le_of_ble_eq_true rfl) rfl ?_
      refine g_iload_n (pc' := 39) C dX4_fits_38 rfl rfl ?_
      refine g_iald (pc' := 40) C (m) hx hm dX4_fits_39 (by first | assumption | exact rfl | exact al13 rfl | exact Nat.le_of_ble_eq_true rfl) rfl rfl rfl ?_
      refine g_ishr (pc' := 41) C dX4_fits_40 rfl ?_
      refine g_iconst (v := 1) (pc' := 42) C dX4_fits_41 (by decide) rfl ?_
      refine g_iand (pc' := 43) C dX4_fits_42 rfl ?_
      refine g_iconst (v := 1) (pc' := 44) C dX4_fits_43 (by decide) rfl ?_
      refine g_icmp_ne (tgt := 51) (pc' := 47) C dX4_fits_44 (by decide) rfl (fun c3 => ?_) (fun c3 => ?_)
      ·
        refine g_iconst (v := 0) (pc' := 52) C dX4_fits_51 (by decide) rfl ?_
        exact g_zret C hR dX4_fits_52 rfl ⟨by simp [b2, mFit, c1, c2, hcl, c3], rfl, rfl⟩
      ·
        refine g_iconst (v := 1) (pc' := 48) C dX4_fits_47 (by decide) rfl ?_
        refine g_goto (tgt := 52) C dX4_fits_48 (by decide) ?_
        exact g_zret C hR dX4_fits_52 rfl ⟨by simp [b2, mFit, c1, c2, hcl, c3], rfl, rfl⟩
  ·
    refine g_iload_n (pc' := 11) C dX4_fits_10 rfl rfl ?_
    refine g_iconst (v := (-1)) (pc' := 12) C dX4_fits_11 (by decide) rfl ?_
    refine g_icmp_ne (tgt := 19) (pc' := 15) C dX4_fits_12 (by decide) rfl (fun c4 => ?_) (fun c4 => ?_)
    ·
      refine g_iconst (v := 0) (pc' := 20) C dX4_fits_19 (by decide) rfl ?_
      refine g_goto (tgt := 52) C dX4_fits_20 (by decide) ?_
      exact g_zret C hR dX4_fits_52 rfl ⟨by simp [b2, mFit, c1, c4], rfl, rfl⟩
    ·
      refine g_iconst (v := 1) (pc' := 16) C dX4_fits_15 (by decide) rfl ?_
      refine g_goto (tgt := 52) C dX4_fits_16 (by decide) ?_
      exact g_zret C hR dX4_fits_52 rfl ⟨by simp [b2, mFit, c1, c4], rfl, rfl⟩
set_option maxRecDepth 20000 in
theorem l_X4_clashes {K : wK} {z : wZ} {P : wP} {O : wO} {post : Option Value → wI → wP → Prop} {I : wI} {M N m : Nat} {what x wh who at1 many but : Int32} (C : Cx K cX4_clashes RX4 12 ((some .boolean)) { frames := 1, cells := 0, slots := 0, locals := 23 } z) (hR : Rx K z O post) (X : MI M N I) (hx : x = nI m) (hm : m < 12) : ∀ (n h : Nat) (b : Bool) (x8 x9 : Int32), x8 = b2 b → x9 = nI h → h + n = N → post (some (.int (b2 (mClL I what m wh who at1 many but n h b)))) I P → G K z I P O 0 0 6 [(0, .ref ((Kg K).2.2 12 0)), (1, .int what), (2, .int x), (3, .int wh), (4, .int who), (5, .int at1), (6, .int many), (7, .int but), (8, .int x8), (9, .int x9)] [] := by
  intro n
  induction n with
  | zero =>
    intro h b x8 x9 ex8 ex9 hk hpost
    subst ex8
    have hNb := X.2.1
    refine g_iload (pc' := 8) C dX4_clashes_6 rfl rfl ?_
    refine g_aload_n (pc' := 9) C dX4_clashes_8 rfl rfl ?_
    refine f_X4_82 (pc' := 12) C dX4_clashes_9 (by first | assumption | exact rfl | exact al13 rfl | exact Nat.le_of_ble_eq_true rfl) rfl ?_
    refine g_icmp_ge (tgt := 243) (pc' := 15) C dX4_clashes_12 (by decide) rfl (fun c1 => ?_) (fun c1 => absurd (by rw [ex9, X.2.2.2.1, show h = N by omega]; exact Int32.le_refl _) c1)
    refine g_iload (pc' := 245) C dX4_clashes_243 rfl rfl ?_
    exact g_zret C hR dX4_clashes_245 (b2_n _) hpost
  | succ n ih =>
    intro h b x8 x9 ex8 ex9 hk hpost
    subst ex8
    have hNb := X.2.1
    have hh : h < N := by omega
    have h24 : h < 24 := by omega
    have J : ∀ v : Int32, v = b2 (mSame I what m wh who h) → G K z I P O 0 0 177 [(0, .ref ((Kg K).2.2 12 0)), (1, .int what), (2, .int x), (3, .int wh), (4, .int who), (5, .int at1), (6, .int many), (7, .int but), (8, .int (b2 b)), (9, .int x9), (10, .int (I 13 15 h))] [.int v] := by
      intro v hv
      subst hv
      refine g_istore (pc' := 179) C dX4_clashes_177 rfl rfl ?_
      refine g_iload (pc' := 181) C dX4_clashes_179 rfl rfl ?_
      refine g_if_ne (tgt := 230) (pc' := 184) C dX4_clashes_181 (by decide) rfl (fun c1 => ?_) (fun c1 => ?_)
      ·
        have c1 := b2_1.mp c1
        refine g_iconst (v := 1) (pc' := 231) C dX4_clashes_230 (by decide) rfl ?_
        refine g_goto (tgt := 235) C dX4_clashes_231 (by decide) ?_
        refine g_istore (pc' := 237) C dX4_clashes_235 rfl rfl ?_
        refine g_iinc (pc' := 240) C dX4_clashes_237 rfl (ii1 _) rfl rfl ?_
        refine g_goto (tgt := 6) C dX4_clashes_240 (by decide) ?_
        exact G_pick [0, 1, 2, 3, 4, 5, 6, 7, 8, 9] rfl (ih (h + 1) (mClS I what m wh who at1 many but h b) _ _ (by simp [b2, mClS, ← ex9, c1]) (by rw [ex9]; exact nI_1 h) (by omega) hpost)
      ·
        have c1 := b2_0.mp c1
        refine g_iload (pc' := 186) C dX4_clashes_184 rfl rfl ?_
        refine g_iload (pc' := 188) C dX4_clashes_186 rfl rfl ?_
        refine g_icmp_eq (tgt := 234) (pc' := 191) C dX4_clashes_188 (by decide) rfl (fun c2 => ?_) (fun c2 => ?_)
        ·
          refine g_iconst (v := 0) (pc' := 235) C dX4_clashes_234 (by decide) rfl ?_
          refine g_istore (pc' := 237) C dX4_clashes_235 rfl rfl ?_
          refine g_iinc (pc' := 240) C dX4_clashes_237 rfl (ii1 _) rfl rfl ?_
          refine g_goto (tgt := 6) C dX4_clashes_240 (by decide) ?_
          exact G_pick [0, 1, 2, 3, 4, 5, 6, 7, 8, 9] rfl (ih (h + 1) (mClS I what m wh who at1 many but h b) _ _ (by simp [b2, mClS, ← ex9, c1, c2]) (by rw [ex9]; exact nI_1 h) (by omega) hpost)
        ·
          refine g_aload_n (pc' := 192) C dX4_clashes_191 rfl rfl ?_
          refine f_X4_41 (pc' := 195) C dX4_clashes_192 (by first | assumption | exact rfl | exact al13 rfl | exact Nat.le_of_ble_eq_true rfl) rfl ?_
          refine g_iload (pc' := 197) C dX4_clashes_195 rfl rfl ?_
          refine g_iald (pc' := 198) C (h) ex9 h24 dX4_clashes_197 (by first | assumption | exact rfl | exact al13 rfl | exact Nat.le_of_ble_eq_true rfl) rfl rfl rfl ?_
          refine g_if_ne (tgt := 234) (pc' := 201) C dX4_clashes_198 (by decide) rfl (fun c3 => ?_) (fun c3 => ?_)
          ·
            refine g_iconst (v := 0) (pc' := 235) C dX4_clashes_234 (by decide) rfl ?_
            refine g_istore (pc' := 237) C dX4_clashes_235 rfl rfl ?_
            refine g_iinc (pc' := 240) C dX4_clashes_237 rfl (ii1 _) rfl rfl ?_
            refine g_goto (tgt := 6) C dX4_clashes_240 (by decide) ?_
            exact G_pick [0, 1, 2, 3, 4, 5, 6, 7, 8, 9] rfl (ih (h + 1) (mClS I what m wh who at1 many but h b) _ _ (by simp [b2, mClS, ← ex9, c1, c2, c3]) (by rw [ex9]; exact nI_1 h) (by omega) hpost)
          ·
            refine g_iload (pc' := 203) C dX4_clashes_201 rfl rfl ?_
            refine g_if_eq (tgt := 234) (pc' := 206) C dX4_clashes_203 (by decide) rfl (fun c4 => ?_) (fun c4 => ?_)
            ·
              have c4 := b2_0.mp c4
              refine g_iconst (v := 0) (pc' := 235) C dX4_clashes_234 (by decide) rfl ?_
              refine g_istore (pc' := 237) C dX4_clashes_235 rfl rfl ?_
              refine g_iinc (pc' := 240) C dX4_clashes_237 rfl (ii1 _) rfl rfl ?_
              refine g_goto (tgt := 6) C dX4_clashes_240 (by decide) ?_
              exact G_pick [0, 1, 2, 3, 4, 5, 6, 7, 8, 9] rfl (ih (h + 1) (mClS I what m wh who at1 many but h b) _ _ (by simp [b2, mClS, ← ex9, c1, c2, c3, c4]) (by rw [ex9]; exact nI_1 h) (by omega) hpost)
            ·
              have c4 := b2_1.mp c4
              refine g_aload_n (pc' := 207) C dX4_clashes_206 rfl rfl ?_
              refine f_X4_53 (pc' := 210) C dX4_clashes_207 (by first | assumption | exact rfl | exact al13 rfl | exact Nat.le_of_ble_eq_true rfl) rfl ?_
              refine g_iload (pc' := 212) C dX4_clashes_210 rfl rfl ?_
              refine g_iald (pc' := 213) C (h) ex9 h24 dX4_clashes_212 (by first | assumption | exact rfl | exact al13 rfl | exact Nat.le_of_ble_eq_true rfl) rfl rfl rfl ?_
              refine g_aload_n (pc' := 214) C dX4_clashes_213 rfl rfl ?_
              refine f_X4_56 (pc' := 217) C dX4_clashes_214 (by first | assumption | exact rfl | exact al13 rfl | exact Nat.le_of_ble_eq_true rfl) rfl ?_
              refine g_iload (pc' := 219) C dX4_clashes_217 rfl rfl ?_
              refine g_iald (pc' := 220) C (h) ex9 h24 dX4_clashes_219 (by first | assumption | exact rfl | exact al13 rfl | exact Nat.le_of_ble_eq_true rfl) rfl rfl rfl ?_
              refine g_iload (pc' := 222) C dX4_clashes_220 rfl rfl ?_
              refine g_iload (pc' := 224) C dX4_clashes_222 rfl rfl ?_
              refine k_X4_96 (pc' := 227) C (m_X4_meets) dX4_clashes_224 ⟨⟨Nat.le_of_ble_eq_true rfl, Nat.le_of_ble_eq_true rfl⟩, rfl, rfl⟩ (Nat.le_of_ble_eq_true rfl) ⟨Nat.zero_le _, Nat.zero_le _⟩ rfl ?_
              refine g_if_eq (tgt := 234) (pc' := 230) C dX4_clashes_227 (by decide) rfl (fun c5 => ?_) (fun c5 => ?_)
              ·
                have c5 := b2_0.mp c5
                refine g_iconst (v := 0) (pc' := 235) C dX4_clashes_234 (by decide) rfl ?_
                refine g_istore (pc' := 237) C dX4_clashes_235 rfl rfl ?_
                refine g_iinc (pc' := 240) C dX4_clashes_237 rfl (ii1 _) rfl rfl ?_
                refine g_goto (tgt := 6) C dX4_clashes_240 (by decide) ?_
                exact G_pick [0, 1, 2, 3, 4, 5, 6, 7, 8, 9] rfl (ih (h + 1) (mClS I what m wh who at1 many but h b) _ _ (by simp [b2, mClS, ← ex9, c1, c2, c3, c4, c5]) (by rw [ex9]; exact nI_1 h) (by omega) hpost)
              ·
                have c5 := b2_1.mp c5
                refine g_iconst (v := 1) (pc' := 231) C dX4_clashes_230 (by decide) rfl ?_
                refine g_goto (tgt := 235) C dX4_clashes_231 (by decide) ?_
                refine g_istore (pc' := 237) C dX4_clashes_235 rfl rfl ?_
                refine g_iinc (pc' := 240) C dX4_clashes_237 rfl (ii1 _) rfl rfl ?_
                refine g_goto (tgt := 6) C dX4_clashes_240 (by decide) ?_
                exact G_pick [0, 1, 2, 3, 4, 5, 6, 7, 8, 9] rfl (ih (h + 1) (mClS I what m wh who at1 many but h b) _ _ (by simp [b2, mClS, ← ex9, c1, c2, c3, c4, c5]) (by rw [ex9]; exact nI_1 h) (by omega) hpost)
    refine g_iload (pc' := 8) C dX4_clashes_6 rfl rfl ?_
    refine g_aload_n (pc' := 9) C dX4_clashes_8 rfl rfl ?_
    refine f_X4_82 (pc' := 12) C dX4_clashes_9 (by first | assumption | exact rfl | exact al13 rfl | exact Nat.le_of_ble_eq_true rfl) rfl ?_
    refine g_icmp_ge (tgt := 243) (pc' := 15) C dX4_clashes_12 (by decide) rfl (fun c1 => absurd c1 (by rw [ex9, X.2.2.2.1]; exact nI_ge hh (by omega))) (fun c1 => ?_)
    refine g_aload_n (pc' := 16) C dX4_clashes_15 rfl rfl ?_
    refine f_X4_44 (pc' := 19) C dX4_clashes_16 (by first | assumption | exact rfl | exact al13 rfl | exact Nat.le_of_ble_eq_true rfl) rfl ?_
    refine g_iload (pc' := 21) C dX4_clashes_19 rfl rfl ?_
    refine g_iald (pc' := 22) C (h) ex9 h24 dX4_clashes_21 (by first | assumption | exact rfl | exact al13 rfl | exact Nat.le_of_ble_eq_true rfl) rfl rfl rfl ?_
    refine g_istore (pc' := 24) C dX4_clashes_22 rfl rfl ?_
    refine g_iload_n (pc' := 25) C dX4_clashes_24 rfl rfl ?_
    refine g_iconst (v := 1) (pc' := 26) C dX4_clashes_25 (by decide) rfl ?_
    refine g_icmp_ne (tgt := 48) (pc' := 29) C dX4_clashes_26 (by decide) rfl (fun c2 => ?_) (fun c2 => ?_)
    ·
      refine g_iload_n (pc' := 49) C dX4_clashes_48 rfl rfl ?_
      refine g_iconst (v := 2) (pc' := 50) C dX4_clashes_49 (by decide) rfl ?_
      refine g_icmp_ne (tgt := 77) (pc' := 53) C dX4_clashes_50 (by decide) rfl (fun c3 => ?_) (fun c3 => ?_)
      ·
        refine g_iload_n (pc' := 78) C dX4_clashes_77 rfl rfl ?_
        refine g_iconst (v := 3) (pc' := 79) C dX4_clashes_78 (by decide) rfl ?_
        refine g_icmp_ne (tgt := 154) (pc' := 82) C dX4_clashes_79 (by decide) rfl (fun c4 => ?_) (fun c4 => ?_)
        ·
          refine g_iload (pc' := 156) C dX4_clashes_154 rfl rfl ?_
          refine g_iconst (v := (-1)) (pc' := 157) C dX4_clashes_156 (by decide) rfl ?_
          refine g_icmp_eq (tgt := 176) (pc' := 160) C dX4_clashes_157 (by decide) rfl (fun c5 => ?_) (fun c5 => ?_)
          ·
            refine g_iconst (v := 0) (pc' := 177) C dX4_clashes_176 (by decide) rfl ?_
            exact J _ (by simp [mSame, b2, c1, c2, c3, c4, c5])
          ·
            refine g_aload_n (pc' := 161) C dX4_clashes_160 rfl rfl ?_
            refine f_X4_50 (pc' := 164) C dX4_clashes_161 (by first | assumption | exact rfl | exact al13 rfl | exact Nat.le_of_ble_eq_true rfl) rfl ?_
            refine g_iload (pc' := 166) C dX4_clashes_164 rfl rfl ?_
            refine g_iald (pc' := 167) C (h) ex9 h24 dX4_clashes_166 (by first | assumption | exact rfl | exact al13 rfl | exact Nat.le_of_ble_eq_true rfl) rfl rfl rfl ?_
            refine g_iload (pc' := 169) C dX4_clashes_167 rfl rfl ?_
            refine g_icmp_ne (tgt := 176) (pc' := 172) C dX4_clashes_169 (by decide) rfl (fun c6 => ?_) (fun c6 => ?_)
            ·
              refine g_iconst (v := 0) (pc' := 177) C dX4_clashes_176 (by decide) rfl ?_
              exact J _ (by simp [mSame, b2, c1, c2, c3, c4, c5, c6])
            ·
              refine g_iconst (v := 1) (pc' := 173) C dX4_clashes_172 (by decide) rfl ?_
              refine g_goto (tgt := 177) C dX4_clashes_173 (by decide) ?_
              exact J _ (by simp [mSame, b2, c1, c2, c3, c4, c5, c6])
        ·
          refine g_aload_n (pc' := 83) C dX4_clashes_82 rfl rfl ?_
          refine f_X4_26 (pc' := 86) C dX4_clashes_83 (by first | assumption | exact rfl | exact al13 rfl | exact Nat.le_of_ble_eq_true rfl) rfl ?_
          refine g_iload (pc' := 88) C dX4_clashes_86 rfl rfl ?_
          refine g_iald (pc' := 89) C (mm I h) (X.mt hh) (X.mt2 hh) dX4_clashes_88 (by first | assumption | exact rfl | exact al13 rfl | exact Nat.le_of_ble_eq_true rfl) rfl rfl rfl ?_
          refine g_aload_n (pc' := 90) C dX4_clashes_89 rfl rfl ?_
          refine f_X4_26 (pc' := 93) C dX4_clashes_90 (by first | assumption | exact rfl | exact al13 rfl | exact Nat.le_of_ble_eq_true rfl) rfl ?_
          refine g_iload_n (pc' := 94) C dX4_clashes_93 rfl rfl ?_
          refine g_iald (pc' := 95) C (m) hx hm dX4_clashes_94 (by first | assumption | exact rfl | exact al13 rfl | exact Nat.le_of_ble_eq_true rfl) rfl rfl rfl ?_
          refine g_icmp_eq (tgt := 146) (pc' := 98) C dX4_clashes_95 (by decide) rfl (fun c7 => ?_) (fun c7 => ?_)
          ·
            refine g_iconst (v := 1) (pc' := 147) C dX4_clashes_146 (by decide) rfl ?_
            refine g_goto (tgt := 177) C dX4_clashes_147 (by decide) ?_
            exact J _ (by simp [mSame, b2, c1, c2, c3, c4, c7])
          ·
            refine g_aload_n (pc' := 99) C dX4_clashes_98 rfl rfl ?_
            refine f_X4_26 (pc' := 102) C dX4_clashes_99 (by first | assumption | exact rfl | exact al13 rfl | exact Nat.le_of_ble_eq_true rfl) rfl ?_
            refine g_iload (pc' := 104) C dX4_clashes_102 rfl rfl ?_
            refine g_iald (pc' := 105) C (mm I h) (X.mt hh) (X.mt2 hh) dX4_clashes_104 (by first | assumption | exact rfl | exact al13 rfl | exact Nat.le_of_ble_eq_true rfl) rfl rfl rfl ?_
            refine g_aload_n (pc' := 106) C dX4_clashes_105 rfl rfl ?_
            refine f_X4_29 (pc' := 109) C dX4_clashes_106 (by first | assumption | exact rfl | exact al13 rfl | exact Nat.le_of_ble_eq_true rfl) rfl ?_
            refine g_iload_n (pc' := 110) C dX4_clashes_109 rfl rfl ?_
            refine g_iald (pc' := 111) C (m) hx hm dX4_clashes_110 (by first | assumption | exact rfl | exact al13 rfl | exact Nat.le_of_ble_eq_true rfl) rfl rfl rfl ?_
            refine g_icmp_eq (tgt := 146) (pc' := 114) C dX4_clashes_111 (by decide) rfl (fun c8 => ?_) (fun c8 => ?_)
            ·
              refine g_iconst (v := 1) (pc' := 147) C dX4_clashes_146 (by decide) rfl ?_
              refine g_goto (tgt := 177) C dX4_clashes_147 (by decide) ?_
              exact J _ (by simp [mSame, b2, c1, c2, c3, c4, c7, c8])
            ·
              refine g_aload_n (pc' := 115) C dX4_clashes_114 rfl rfl ?_
              refine f_X4_29 (pc' := 118) C dX4_clashes_115 (by first | assumption | exact rfl | exact al13 rfl | exact Nat.le_of_ble_eq_true rfl) rfl ?_
              refine g_iload (pc' := 120) C dX4_clashes_118 rfl rfl ?_
              refine g_iald (pc' := 121) C (mm I h) (X.mt hh) (X.mt2 hh) dX4_clashes_120 (by first | assumption | exact rfl | exact al13 rfl | exact Nat.le_of_ble_eq_true rfl) rfl rfl rfl ?_
              refine g_aload_n (pc' := 122) C dX4_clashes_121 rfl rfl ?_
              refine f_X4_26 (pc' := 125) C dX4_clashes_122 (by first | assumption | exact rfl | exact al13 rfl | exact Nat.le_of_ble_eq_true rfl) rfl ?_
              refine g_iload_n (pc' := 126) C dX4_clashes_125 rfl rfl ?_
              refine g_iald (pc' := 127) C (m) hx hm dX4_clashes_126 (by first | assumption | exact rfl | exact al13 rfl | exact Nat.le_of_ble_eq_true rfl) rfl rfl rfl ?_
              refine g_icmp_eq (tgt := 146) (pc' := 130) C dX4_clashes_127 (by decide) rfl (fun c9 => ?_) (fun c9 => ?_)
              ·
                refine g_iconst (v := 1) (pc' := 147) C dX4_clashes_146 (by decide) rfl ?_
                refine g_goto (tgt := 177) C dX4_clashes_147 (by decide) ?_
                exact J _ (by simp [mSame, b2, c1, c2, c3, c4, c7, c8, c9])
              ·
                refine g_aload_n (pc' := 131) C dX4_clashes_130 rfl rfl ?_
                refine f_X4_29 (pc' := 134) C dX4_clashes_131 (by first | assumption | exact rfl | exact al13 rfl | exact Nat.le_of_ble_eq_true rfl) rfl ?_
                refine g_iload (pc' := 136) C dX4_clashes_134 rfl rfl ?_
                refine g_iald (pc' := 137) C (mm I h) (X.mt hh) (X.mt2 hh) dX4_clashes_136 (by first | assumption | exact rfl | exact al13 rfl | exact Nat.le_of_ble_eq_true rfl) rfl rfl rfl ?_
                refine g_aload_n (pc' := 138) C dX4_clashes_137 rfl rfl ?_
                refine f_X4_29 (pc' := 141) C dX4_clashes_138 (by first | assumption | exact rfl | exact al13 rfl | exact Nat.le_of_ble_eq_true rfl) rfl ?_
                refine g_iload_n (pc' := 142) C dX4_clashes_141 rfl rfl ?_
                refine g_iald (pc' := 143) C (m) hx hm dX4_clashes_142 (by first | assumption | exact rfl | exact al13 rfl | exact Nat.le_of_ble_eq_true rfl) rfl rfl rfl ?_
                refine g_icmp_ne (tgt := 150) (pc' := 146) C dX4_clashes_143 (by decide) rfl (fun c10 => ?_) (fun c10 => ?_)
                ·
                  refine g_iconst (v := 0) (pc' := 151) C dX4_clashes_150 (by decide) rfl ?_
                  refine g_goto (tgt := 177) C dX4_clashes_151 (by decide) ?_
                  exact J _ (by simp [mSame, b2, c1, c2, c3, c4, c7, c8, c9, c10])
                ·
                  refine g_iconst (v := 1) (pc' := 147) C dX4_clashes_146 (by decide) rfl ?_
                  refine g_goto (tgt := 177) C dX4_clashes_147 (by decide) ?_
                  exact J _ (by simp [mSame, b2, c1, c2, c3, c4, c7, c8, c9, c10])
      ·
        refine g_aload_n (pc' := 54) C dX4_clashes_53 rfl rfl ?_
        refine f_X4_23 (pc' := 57) C dX4_clashes_54 (by first | assumption | exact rfl | exact al13 rfl | exact Nat.le_of_ble_eq_true rfl) rfl ?_
        refine g_iload (pc' := 59) C dX4_clashes_57 rfl rfl ?_
        refine g_iald (pc' := 60) C (mm I h) (X.mt hh) (X.mt2 hh) dX4_clashes_59 (by first | assumption | exact rfl | exact al13 rfl | exact Nat.le_of_ble_eq_true rfl) rfl rfl rfl ?_
        refine g_aload_n (pc' := 61) C dX4_clashes_60 rfl rfl ?_
        refine f_X4_23 (pc' := 64) C dX4_clashes_61 (by first | assumption | exact rfl | exact al13 rfl | exact Nat.le_of_ble_eq_true rfl) rfl ?_
        refine g_iload_n (pc' := 65) C dX4_clashes_64 rfl rfl ?_
        refine g_iald (pc' := 66) C (m) hx hm dX4_clashes_65 (by first | assumption | exact rfl | exact al13 rfl | exact Nat.le_of_ble_eq_true rfl) rfl rfl rfl ?_
        refine g_icmp_ne (tgt := 73) (pc' := 69) C dX4_clashes_66 (by decide) rfl (fun c11 => ?_) (fun c11 => ?_)
        ·
          refine g_iconst (v := 0) (pc' := 74) C dX4_clashes_73 (by decide) rfl ?_
          refine g_goto (tgt := 177) C dX4_clashes_74 (by decide) ?_
          exact J _ (by simp [mSame, b2, c1, c2, c3, c11])
        ·
          refine g_iconst (v := 1) (pc' := 70) C dX4_clashes_69 (by decide) rfl ?_
          refine g_goto (tgt := 177) C dX4_clashes_70 (by decide) ?_
          exact J _ (by simp [mSame, b2, c1, c2, c3, c11])
    ·
      refine g_aload_n (pc' := 30) C dX4_clashes_29 rfl rfl ?_
      refine f_X4_47 (pc' := 33) C dX4_clashes_30 (by first | assumption | exact rfl | exact al13 rfl | exact Nat.le_of_ble_eq_true rfl) rfl ?_
      refine g_iload (pc' := 35) C dX4_clashes_33 rfl rfl ?_
      refine g_iald (pc' := 36) C (h) ex9 h24 dX4_clashes_35 (by first | assumption | exact rfl | exact al13 rfl | exact Nat.le_of_ble_eq_true rfl) rfl rfl rfl ?_
      refine g_iload_n (pc' := 37) C dX4_clashes_36 rfl rfl ?_
      refine g_icmp_ne (tgt := 44) (pc' := 40) C dX4_clashes_37 (by decide) rfl (fun c12 => ?_) (fun c12 => ?_)
      ·
        refine g_iconst (v := 0) (pc' := 45) C dX4_clashes_44 (by decide) rfl ?_
        refine g_goto (tgt := 177) C dX4_clashes_45 (by decide) ?_
        exact J _ (by simp [mSame, b2, c1, c2, c12])
      ·
        refine g_iconst (v := 1) (pc' := 41) C dX4_clashes_40 (by decide) rfl ?_
        refine g_goto (tgt := 177) C dX4_clashes_41 (by decide) ?_
        exact J _ (by simp [mSame, b2, c1, c2, c12])
set_option maxRecDepth 20000 in
theorem m_X4_clashes {l : Launch} {g : wG} {z : wZ} {I : wI} {P : wP} {O : wO} {M N m : Nat} {what x wh who at1 many but : Int32} (X : MI M N I) (hx : x = nI m) (hm : m < 12) : RT l yX4_clashes cX4_clashes 12 ((some .boolean)) { frames := 1, cells := 0, slots := 0, locals := 23 } g z [.ref (g.2.2 12 0), .int what, .int x, .int wh, .int who, .int at1, .int many, .int but] I P O (dp (some (.int (b2 (mClL I what m wh who at1 many but N 0 false)))) (I) (P)) := by
  refine RT.of (own := RX4) rfl (by decide +kernel) (Nat.le_of_ble_eq_true rfl) rfl (fun K C hl hg hR => ?_)
  subst hl
  subst hg
  refine g_iconst (v := 0) (pc' := 1) C dX4_clashes_0 (by decide) rfl ?_
  refine g_istore (pc' := 3) C dX4_clashes_1 rfl rfl ?_
  refine g_iconst (v := 0) (pc' := 4) C dX4_clashes_3 (by decide) rfl ?_
  refine g_istore (pc' := 6) C dX4_clashes_4 rfl rfl ?_
  exact l_X4_clashes C hR X hx hm N 0 false 0 0 rfl nI_0.symm (by omega) ⟨rfl, rfl, rfl⟩
set_option maxRecDepth 20000 in
theorem m_X4_reason {l : Launch} {g : wG} {z : wZ} {I : wI} {P : wP} {O : wO} {M N m : Nat} {x wh who at1 many but : Int32} (X : MI M N I) (hx : x = nI m) (hm : m < 12) : RT l yX4_reason cX4_reason 8 ((some .int)) { frames := 2, cells := 0, slots := 0, locals := 54 } g z [.ref (g.2.2 12 0), .int x, .int wh, .int who, .int at1, .int many, .int but] I P O (dp (some (.int (mRe I N m wh who at1 many but))) (I) (P)) := by
  refine RT.of (own := RX4) rfl (by decide +kernel) (Nat.le_of_ble_eq_true rfl) rfl (fun K C hl hg hR => ?_)
  subst hl
  subst hg
  refine g_iconst (v := 1) (pc' := 1) C dX4_reason_0 (by decide) rfl ?_
  refine g_istore (pc' := 3) C dX4_reason_1 rfl rfl ?_
  refine g_iload (pc' := 5) C dX4_reason_3 rfl rfl ?_
  refine g_iconst (v := 5) (pc' := 6) C dX4_reason_5 (by decide) rfl ?_
  refine g_icmp_ge (tgt := 36) (pc' := 9) C dX4_reason_6 (by decide) rfl (fun c1 => absurd c1 (by first | decide | rw [thv]; decide)) (fun c1 => ?_)
  refine g_aload_n (pc' := 10) C dX4_reason_9 rfl rfl ?_
  refine g_iload (pc' := 12) C dX4_reason_10 rfl rfl ?_
  refine g_iload_n (pc' := 13) C dX4_reason_12 rfl rfl ?_
  refine g_iload_n (pc' := 14) C dX4_reason_13 rfl rfl ?_
  refine g_iload_n (pc' := 15) C dX4_reason_14 rfl rfl ?_
  refine g_iload (pc' := 17) C dX4_reason_15 rfl rfl ?_
  refine g_iload (pc' := 19) C dX4_reason_17 rfl rfl ?_
  refine g_iload (pc' := 21) C dX4_reason_19 rfl rfl ?_
  refine k_X4_100 (pc' := 24) C (m_X4_clashes X hx hm) dX4_reason_21 (by first | assumption | exact rfl | exact al13 rfl | exact Nat.le_of_ble_eq_true rfl) ⟨⟨Nat.le_of_ble_eq_true rfl, Nat.le_of_ble_eq_true rfl⟩, rfl, rfl⟩ (Nat.le_of_ble_eq_true rfl) ⟨Nat.zero_le _, Nat.zero_le _⟩ rfl ?_
  refine g_if_eq (tgt := 30) (pc' := 27) C dX4_reason_24 (by decide) rfl (fun c2 => ?_) (fun c2 => ?_)
  ·
    have c2 := b2_0.mp c2
    refine g_iinc (v := 2) (pc' := 33) C dX4_reason_30 rfl (by decide) rfl rfl ?_
    refine g_goto (tgt := 3) C dX4_reason_33 (by decide) ?_
    refine g_iload (pc' := 5) C dX4_reason_3 rfl rfl ?_
    refine g_iconst (v := 5) (pc' := 6) C dX4_reason_5 (by decide) rfl ?_
    refine g_icmp_ge (tgt := 36) (pc' := 9) C dX4_reason_6 (by decide) rfl (fun c3 => absurd c3 (by first | decide | rw [thv]; decide)) (fun c3 => ?_)
    refine g_aload_n (pc' := 10) C dX4_reason_9 rfl rfl ?_
    refine g_iload (pc' := 12) C dX4_reason_10 rfl rfl ?_
    refine g_iload_n (pc' := 13) C dX4_reason_12 rfl rfl ?_
    refine g_iload_n (pc' := 14) C dX4_reason_13 rfl rfl ?_
    refine g_iload_n (pc' := 15) C dX4_reason_14 rfl rfl ?_
    refine g_iload (pc' := 17) C dX4_reason_15 rfl rfl ?_
    refine g_iload (pc' := 19) C dX4_reason_17 rfl rfl ?_
    refine g_iload (pc' := 21) C dX4_reason_19 rfl rfl ?_
    refine k_X4_100 (pc' := 24) C (m_X4_clashes X hx hm) dX4_reason_21 (by first | assumption | exact rfl | exact al13 rfl | exact Nat.le_of_ble_eq_true rfl) ⟨⟨Nat.le_of_ble_eq_true rfl, Nat.le_of_ble_eq_true rfl⟩, rfl, rfl⟩ (Nat.le_of_ble_eq_true rfl) ⟨Nat.zero_le _, Nat.zero_le _⟩ rfl ?_
    refine g_if_eq (tgt := 30) (pc' := 27) C dX4_reason_24 (by decide) rfl (fun c4 => ?_) (fun c4 => ?_)
    ·
      have c4 := b2_0.mp c4
      refine g_iinc (v := 3) (pc' := 33) C dX4_reason_30 rfl (by decide) rfl rfl ?_
      refine g_goto (tgt := 3) C dX4_reason_33 (by decide) ?_
      refine g_iload (pc' := 5) C dX4_reason_3 rfl rfl ?_
      refine g_iconst (v := 5) (pc' := 6) C dX4_reason_5 (by decide) rfl ?_
      refine g_icmp_ge (tgt := 36) (pc' := 9) C dX4_reason_6 (by decide) rfl (fun c5 => absurd c5 (by first | decide | rw [thv]; decide)) (fun c5 => ?_)
      refine g_aload_n (pc' := 10) C dX4_reason_9 rfl rfl ?_
      refine g_iload (pc' := 12) C dX4_reason_10 rfl rfl ?_
      refine g_iload_n (pc' := 13) C dX4_reason_12 rfl rfl ?_
      refine g_iload_n (pc' := 14) C dX4_reason_13 rfl rfl ?_
      refine g_iload_n (pc' := 15) C dX4_reason_14 rfl rfl ?_
      refine g_iload (pc' := 17) C dX4_reason_15 rfl rfl ?_
      refine g_iload (pc' := 19) C dX4_reason_17 rfl rfl ?_
      refine g_iload (pc' := 21) C dX4_reason_19 rfl rfl ?_
      refine k_X4_100 (pc' := 24) C (m_X4_clashes X hx hm) dX4_reason_21 (by first | assumption | exact rfl | exact al13 rfl | exact Nat.le_of_ble_eq_true rfl) ⟨⟨Nat.le_of_ble_eq_true rfl, Nat.le_of_ble_eq_true rfl⟩, rfl, rfl⟩ (Nat.le_of_ble_eq_true rfl) ⟨Nat.zero_le _, Nat.zero_le _⟩ rfl ?_
      refine g_if_eq (tgt := 30) (pc' := 27) C dX4_reason_24 (by decide) rfl (fun c6 => ?_) (fun c6 => ?_)
      ·
        have c6 := b2_0.mp c6
        refine g_iinc (v := 4) (pc' := 33) C dX4_reason_30 rfl (by decide) rfl rfl ?_
        refine g_goto (tgt := 3) C dX4_reason_33 (by decide) ?_
        refine g_iload (pc' := 5) C dX4_reason_3 rfl rfl ?_
        refine g_iconst (v := 5) (pc' := 6) C dX4_reason_5 (by decide) rfl ?_
        refine g_icmp_ge (tgt := 36) (pc' := 9) C dX4_reason_6 (by decide) rfl (fun c7 => absurd c7 (by first | decide | rw [thv]; decide)) (fun c7 => ?_)
        refine g_aload_n (pc' := 10) C dX4_reason_9 rfl rfl ?_
        refine g_iload (pc' := 12) C dX4_reason_10 rfl rfl ?_
        refine g_iload_n (pc' := 13) C dX4_reason_12 rfl rfl ?_
        refine g_iload_n (pc' := 14) C dX4_reason_13 rfl rfl ?_
        refine g_iload_n (pc' := 15) C dX4_reason_14 rfl rfl ?_
        refine g_iload (pc' := 17) C dX4_reason_15 rfl rfl ?_
        refine g_iload (pc' := 19) C dX4_reason_17 rfl rfl ?_
        refine g_iload (pc' := 21) C dX4_reason_19 rfl rfl ?_
        refine k_X4_100 (pc' := 24) C (m_X4_clashes X hx hm) dX4_reason_21 (by first | assumption | exact rfl | exact al13 rfl | exact Nat.le_of_ble_eq_true rfl) ⟨⟨Nat.le_of_ble_eq_true rfl, Nat.le_of_ble_eq_true rfl⟩, rfl, rfl⟩ (Nat.le_of_ble_eq_true rfl) ⟨Nat.zero_le _, Nat.zero_le _⟩ rfl ?_
        refine g_if_eq (tgt := 30) (pc' := 27) C dX4_reason_24 (by decide) rfl (fun c8 => ?_) (fun c8 => ?_)
        ·
          have c8 := b2_0.mp c8
          refine g_iinc (v := 5) (pc' := 33) C dX4_reason_30 rfl (by decide) rfl rfl ?_
          refine g_goto (tgt := 3) C dX4_reason_33 (by decide) ?_
          refine g_iload (pc' := 5) C dX4_reason_3 rfl rfl ?_
          refine g_iconst (v := 5) (pc' := 6) C dX4_reason_5 (by decide) rfl ?_
          refine g_icmp_ge (tgt := 36) (pc' := 9) C dX4_reason_6 (by decide) rfl (fun c9 => ?_) (fun c9 => absurd (by first | decide | rw [thv]; decide) c9)
          refine g_iconst (v := 0) (pc' := 37) C dX4_reason_36 (by decide) rfl ?_
          exact g_iret C hR dX4_reason_37 ⟨by simp [mRe, c1, c2, c3, c4, c5, c6, c7, c8, c9], rfl, rfl⟩
        ·
          have c8 := b2_1.mp c8
          refine g_iload (pc' := 29) C dX4_reason_27 rfl rfl ?_
          exact g_iret C hR dX4_reason_29 ⟨by simp [mRe, c1, c2, c3, c4, c5, c6, c7, c8], rfl, rfl⟩
      ·
        have c6 := b2_1.mp c6
        refine g_iload (pc' := 29) C dX4_reason_27 rfl rfl ?_
        exact g_iret C hR dX4_reason_29 ⟨by simp [mRe, c1, c2, c3, c4, c5, c6], rfl, rfl⟩
    ·
      have c4 := b2_1.mp c4
      refine g_iload (pc' := 29) C dX4_reason_27 rfl rfl ?_
      exact g_iret C hR dX4_reason_29 ⟨by simp [mRe, c1, c2, c3, c4], rfl, rfl⟩
  ·
    have c2 := b2_1.mp c2
    refine g_iload (pc' := 29) C dX4_reason_27 rfl rfl ?_
    exact g_iret C hR dX4_reason_29 ⟨by simp [mRe, c1, c2], rfl, rfl⟩
end WModel
