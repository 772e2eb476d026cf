section WHelp
theorem G_pick {K : wK} {z : wZ} {I : wI} {P : wP} {O : wO} {c n pc : Nat} {L L' : List (Nat × Value)} {S : List Value} (ks : List Nat) (h : lv_pick L ks = L') (kk : G K z I P O c n pc L' S) : G K z I P O c n pc L S := by
  obtain ⟨p, l, e, R, s, m, args, below, meth, cd, Q, g, A⟩ := K
  intro H locs ls hH hS hl hc
  refine kk H locs ls hH hS (lv_sub hl ks h) (fun q hq => ?_)
  rw [← h] at hq
  obtain ⟨k, -, hk⟩ := List.mem_filterMap.mp hq
  exact hc q (List.mem_of_getElem? hk)
def inn (x c : Int32) : Bool := !decide (x < 0) && !decide (c ≤ x)
def mx (P : wP) (h : Nat) : Nat := (P 3 h 1).getD 0
def hrN (I : wI) (h : Nat) : Nat := (I 3 h 2).toNatClampNeg
def fsN (I : wI) (m : Nat) : Nat := (I 2 m 2).toNatClampNeg
def XI (z : wZ) (I : wI) (P : wP) : Prop := z.1 ≤ 12 ∧ z.2 ≤ 24 ∧ I 0 0 4 = nI z.1 ∧ I 0 0 5 = nI z.2 ∧ (∀ j, j < z.1 → P 6 0 j = some j) ∧ (∀ j, j < z.2 → P 7 0 j = some j) ∧ (∀ j, j < 4 → P 4 0 j = some j) ∧ (∀ h, h < z.2 → P 3 h 1 = some (mx P h) ∧ mx P h < z.1) ∧ (∀ i p q, i < 4 → p < 16 → P 9 i p = some q → q < z.1) ∧ (∀ h, h < z.2 → I 3 h 2 = nI (hrN I h) ∧ hrN I h ≤ 4) ∧ (∀ m, m < z.1 → I 2 m 2 = nI (fsN I m) ∧ fsN I m < 6)
theorem XI.hm {z : wZ} {I : wI} {P : wP} {h : Nat} (X : XI z I P) (hh : wAl z 3 h) : P 3 h 1 = some (mx P h) := (X.2.2.2.2.2.2.2.1 h hh).1
theorem XI.hm2 {z : wZ} {I : wI} {P : wP} {h : Nat} (X : XI z I P) (hh : wAl z 3 h) : wAl z 2 (mx P h) := (X.2.2.2.2.2.2.2.1 h hh).2
theorem XI.h9 {z : wZ} {I : wI} {P : wP} {i p q : Nat} (X : XI z I P) (hi : wAl z 1 i) (hp : p < 16) (h : P 9 i p = some q) : wAl z 2 q := X.2.2.2.2.2.2.2.2.1 i p q hi hp h
theorem XI.hr {z : wZ} {I : wI} {P : wP} {h : Nat} (X : XI z I P) (hh : wAl z 3 h) : I 3 h 2 = nI (hrN I h) := (X.2.2.2.2.2.2.2.2.2.1 h hh).1
theorem XI.hr4 {z : wZ} {I : wI} {P : wP} {h : Nat} (X : XI z I P) (hh : wAl z 3 h) : hrN I h ≤ 4 := (X.2.2.2.2.2.2.2.2.2.1 h hh).2
theorem XI.fs {z : wZ} {I : wI} {P : wP} {m : Nat} (X : XI z I P) (hm : wAl z 2 m) : I 2 m 2 = nI (fsN I m) := (X.2.2.2.2.2.2.2.2.2.2 m hm).1
theorem XI.fs6 {z : wZ} {I : wI} {P : wP} {m : Nat} (X : XI z I P) (hm : wAl z 2 m) : fsN I m < 6 := (X.2.2.2.2.2.2.2.2.2.2 m hm).2
theorem XI.of {z : wZ} {I I' : wI} {P P' : wP} (X : XI z I P) (h4 : I' 0 0 4 = I 0 0 4) (h5 : I' 0 0 5 = I 0 0 5) (h2 : ∀ h, I' 3 h 2 = I 3 h 2) (hf : ∀ m, I' 2 m 2 = I 2 m 2) (hP : ∀ k i, k ≠ 9 → P' k i = P k i) (hP9 : ∀ i p q, i < 4 → p < 16 → P' 9 i p = some q → q < z.1) : XI z I' P' := by
  obtain ⟨a, b, c, d, e, f, g, h, i, j, k⟩ := X
  refine ⟨a, b, h4.trans c, h5.trans d, fun q hq => ?_, fun q hq => ?_, fun q hq => ?_, fun q hq => ?_, hP9, fun q hq => ?_, fun q hq => ?_⟩
  · rw [hP 6 0 (by decide)]; exact e q hq
  · rw [hP 7 0 (by decide)]; exact f q hq
  · rw [hP 4 0 (by decide)]; exact g q hq
  · unfold mx; rw [hP 3 q (by decide)]; exact h q hq
  · unfold hrN; rw [h2 q]; exact j q hq
  · unfold fsN; rw [hf q]; exact k q hq
theorem in_of (x : Int32) (n : Nat) (hn : n < 2 ^ 31) : (∃ j : Nat, j < n ∧ x = nI j) ∨ (x < 0 ∨ nI n ≤ x) := by
  rcases pk_ix x hn with h | h | ⟨j, h1, h2⟩
  · exact Or.inr (Or.inl h)
  · exact Or.inr (Or.inr h)
  · exact Or.inl ⟨j, h1, h2⟩
def asN (I : wI) (m : Nat) (x : Int32) : Bool := if I 2 m 4 = -1 then decide (x < 0 ∨ 4 ≤ x) else (!decide (x < 0 ∨ 4 ≤ x)) && kn I x.toNatClampNeg (I 2 m 4)
def crS (I : wI) (P : wP) (it : Option Nat) (m : Nat) (r itp fr oh : Int32) (h : Nat) (x : Int32) : Int32 := if it = some h ∨ ¬ tp I h fr oh = true then x else if ¬ ra I (mx P h) h m r itp = 0 ∧ (x = 0 ∨ ¬ x ≤ ra I (mx P h) h m r itp) then ra I (mx P h) h m r itp else x
def crL (I : wI) (P : wP) (it : Option Nat) (m : Nat) (r itp fr oh : Int32) : Nat → Nat → Int32 → Int32
  | 0, _, x => x
  | n + 1, h, x => crL I P it m r itp fr oh n (h + 1) (crS I P it m r itp fr oh h x)
def ff (I : wI) (m : Nat) (fee : Int32) : Int32 := if I 5 0 (fsN I m) = 0 then fee else 0
def ptS (i m h : Nat) (fr now : Int32) (k : Nat) (s : wI × wP) : wI × wP := (upI (tkI s.1 s.2 i m (fr + nI k) now) 11 h k (tkR s.1 s.2 i m (fr + nI k) now), tkP s.1 s.2 i (fr + nI k) now)
def ptL (i m h : Nat) (fr now : Int32) : Nat → Nat → wI × wP → wI × wP
  | 0, _, s => s
  | n + 1, k, s => ptL i m h fr now n (k + 1) (ptS i m h fr now k s)
def p0L (h : Nat) : Nat → Nat → wI → wI
  | 0, _, I => I
  | n + 1, k, I => p0L h n (k + 1) (upI I 11 h k 0)
def putB (I : wI) (m h : Nat) : wI := upI I 2 m 6 (I 2 m 6 - chg I h)
def lvS (i m h : Nat) (k : Nat) (s : wI × wP) : wI × wP := (kpI s.1 i (s.1 3 h 7 + nI k) (s.1 11 h k), kpP s.2 i m (s.1 3 h 7 + nI k))
def lvL (i m h : Nat) : Nat → Nat → wI × wP → wI × wP
  | 0, _, s => s
  | n + 1, k, s => lvL i m h n (k + 1) (lvS i m h k s)
def blL (I : wI) : Nat → Nat → Int32 → Int32
  | 0, _, x => x
  | n + 1, m, x => blL I n (m + 1) (x + I 2 m 6)
set_option maxRecDepth 20000 in
theorem m_X3_isIn {l : Launch} {g : wG} {z : wZ} {I : wI} {P : wP} {O : wO} {x y : Int32} : RT l yX3_isIn cX3_isIn 2 ((some .boolean)) { frames := 0, cells := 0, slots := 0, locals := 0 } g z [.int x, .int y] I P O (dp (some (.int (b2 (inn x y)))) (I) (P)) := by
  refine RT.of (own := RX3) rfl (by decide +kernel) (Nat.le_of_ble_eq_true rfl) rfl (fun K C hl hg hR => ?_)
  subst hl
  subst hg
  refine g_iload_n (pc' := 1) C dX3_isIn_0 rfl rfl ?_
  refine g_if_lt (tgt := 13) (pc' := 4) C dX3_isIn_1 (by decide) rfl (fun c1 => ?_) (fun c1 => ?_)
  ·
    refine g_iconst (v := 0) (pc' := 14) C dX3_isIn_13 (by decide) rfl ?_
    exact g_zret C hR dX3_isIn_14 rfl ⟨by simp [b2, inn, c1], rfl, rfl⟩
  ·
    refine g_iload_n (pc' := 5) C dX3_isIn_4 rfl rfl ?_
    refine g_iload_n (pc' := 6) C dX3_isIn_5 rfl rfl ?_
    refine g_icmp_ge (tgt := 13) (pc' := 9) C dX3_isIn_6 (by decide) rfl (fun c2 => ?_) (fun c2 => ?_)
    ·
      refine g_iconst (v := 0) (pc' := 14) C dX3_isIn_13 (by decide) rfl ?_
      exact g_zret C hR dX3_isIn_14 rfl ⟨by simp [b2, inn, c1, c2], rfl, rfl⟩
    ·
      refine g_iconst (v := 1) (pc' := 10) C dX3_isIn_9 (by decide) rfl ?_
      refine g_goto (tgt := 14) C dX3_isIn_10 (by decide) ?_
      exact g_zret C hR dX3_isIn_14 rfl ⟨by simp [b2, inn, c1, c2], rfl, rfl⟩
set_option maxRecDepth 20000 in
theorem m_X3_isInOrNone {l : Launch} {g : wG} {z : wZ} {I : wI} {P : wP} {O : wO} {x y : Int32} : RT l yX3_isInOrNone cX3_isInOrNone 2 ((some .boolean)) { frames := 1, cells := 0, slots := 0, locals := 21 } g z [.int x, .int y] I P O (dp (some (.int (b2 (decide (x = -1) || inn x y)))) (I) (P)) := by
  refine RT.of (own := RX3) rfl (by decide +kernel) (Nat.le_of_ble_eq_true rfl) rfl (fun K C hl hg hR => ?_)
  subst hl
  subst hg
  refine g_iload_n (pc' := 1) C dX3_isInOrNone_0 rfl rfl ?_
  refine g_iconst (v := (-1)) (pc' := 2) C dX3_isInOrNone_1 (by decide) rfl ?_
  refine g_icmp_eq (tgt := 13) (pc' := 5) C dX3_isInOrNone_2 (by decide) rfl (fun c1 => ?_) (fun c1 => ?_)
  ·
    refine g_iconst (v := 1) (pc' := 14) C dX3_isInOrNone_13 (by decide) rfl ?_
    refine g_goto (tgt := 18) C dX3_isInOrNone_14 (by decide) ?_
    exact g_zret C hR dX3_isInOrNone_18 rfl ⟨by simp [b2, c1], rfl, rfl⟩
  ·
    refine g_iload_n (pc' := 6) C dX3_isInOrNone_5 rfl rfl ?_
    refine g_iload_n (pc' := 7) C dX3_isInOrNone_6 rfl rfl ?_
    refine k_X3_66 (pc' := 10) C (m_X3_isIn) dX3_isInOrNone_7 ⟨⟨Nat.le_of_ble_eq_true rfl, Nat.le_of_ble_eq_true rfl⟩, rfl, rfl⟩ (Nat.le_of_ble_eq_true rfl) ⟨Nat.zero_le _, Nat.zero_le _⟩ rfl ?_
    refine g_if_eq (tgt := 17) (pc' := 13) C dX3_isInOrNone_10 (by decide) rfl (fun c2 => ?_) (fun c2 => ?_)
    ·
      have c2 := b2_0.mp c2
      refine g_iconst (v := 0) (pc' := 18) C dX3_isInOrNone_17 (by decide) rfl ?_
      exact g_zret C hR dX3_isInOrNone_18 rfl ⟨by simp [b2, c1, c2], rfl, rfl⟩
    ·
      have c2 := b2_1.mp c2
      refine g_iconst (v := 1) (pc' := 14) C dX3_isInOrNone_13 (by decide) rfl ?_
      refine g_goto (tgt := 18) C dX3_isInOrNone_14 (by decide) ?_
      exact g_zret C hR dX3_isInOrNone_18 rfl ⟨by simp [b2, c1, c2], rfl, rfl⟩
set_option maxRecDepth 20000 in
theorem m_X3_isCalendarHour {l : Launch} {g : wG} {z : wZ} {I : wI} {P : wP} {O : wO} {x : Int32} : RT l yX3_isCalendarHour cX3_isCalendarHour 1 ((some .boolean)) { frames := 0, cells := 0, slots := 0, locals := 0 } g z [.int x] I P O (dp (some (.int (b2 (!decide (x < 0) && !decide (1003 < x))))) (I) (P)) := by
  refine RT.of (own := RX3) rfl (by decide +kernel) (Nat.le_of_ble_eq_true rfl) rfl (fun K C hl hg hR => ?_)
  subst hl
  subst hg
  refine g_iload_n (pc' := 1) C dX3_isCalendarHour_0 rfl rfl ?_
  refine g_if_lt (tgt := 15) (pc' := 4) C dX3_isCalendarHour_1 (by decide) rfl (fun c1 => ?_) (fun c1 => ?_)
  ·
    refine g_iconst (v := 0) (pc' := 16) C dX3_isCalendarHour_15 (by decide) rfl ?_
    exact g_zret C hR dX3_isCalendarHour_16 rfl ⟨by simp [b2, inn, c1], rfl, rfl⟩
  ·
    refine g_iload_n (pc' := 5) C dX3_isCalendarHour_4 rfl rfl ?_
    refine g_sipush (v := 1003) (pc' := 8) C dX3_isCalendarHour_5 (by decide) rfl ?_
    refine g_icmp_gt (tgt := 15) (pc' := 11) C dX3_isCalendarHour_8 (by decide) rfl (fun c2 => ?_) (fun c2 => ?_)
    ·
      refine g_iconst (v := 0) (pc' := 16) C dX3_isCalendarHour_15 (by decide) rfl ?_
      exact g_zret C hR dX3_isCalendarHour_16 rfl ⟨by simp [b2, inn, c1, c2], rfl, rfl⟩
    ·
      refine g_iconst (v := 1) (pc' := 12) C dX3_isCalendarHour_11 (by decide) rfl ?_
      refine g_goto (tgt := 16) C dX3_isCalendarHour_12 (by decide) ?_
      exact g_zret C hR dX3_isCalendarHour_16 rfl ⟨by simp [b2, inn, c1, c2], rfl, rfl⟩
set_option maxRecDepth 20000 in
theorem m_X3_howMany {l : Launch} {g : wG} {z : wZ} {I : wI} {P : wP} {O : wO} {x : Int32} : RT l yX3_howMany cX3_howMany 1 ((some .int)) { frames := 0, cells := 0, slots := 0, locals := 0 } g z [.int x] I P O (dp (some (.int (if x = 0 then 4 else if x = 1 then 4 else if x = 2 then 6 else 4))) (I) (P)) := by
  refine RT.of (own := RX3) rfl (by decide +kernel) (Nat.le_of_ble_eq_true rfl) rfl (fun K C hl hg hR => ?_)
  subst hl
  subst hg
  refine g_iload_n (pc' := 1) C dX3_howMany_0 rfl rfl ?_
  rcases tsw2 x with hw | hw | hw | hw
  · refine g_tabIn (tgt := 28) C 0 (by rw [hw]; rfl) dX3_howMany_1 (by decide) (by decide) rfl (by decide) ?_
    refine g_iconst (v := 4) (pc' := 29) C dX3_howMany_28 (by decide) rfl ?_
    exact g_iret C hR dX3_howMany_29 ⟨by simp [hw], rfl, rfl⟩
  · refine g_tabIn (tgt := 30) C 1 (by rw [hw]; rfl) dX3_howMany_1 (by decide) (by decide) rfl (by decide) ?_
    refine g_iconst (v := 4) (pc' := 31) C dX3_howMany_30 (by decide) rfl ?_
    exact g_iret C hR dX3_howMany_31 ⟨by simp [hw], rfl, rfl⟩
  · refine g_tabIn (tgt := 32) C 2 (by rw [hw]; rfl) dX3_howMany_1 (by decide) (by decide) rfl (by decide) ?_
    refine g_bipush (v := 6) (pc' := 34) C dX3_howMany_32 (by decide) rfl ?_
    exact g_iret C hR dX3_howMany_34 ⟨by simp [hw], rfl, rfl⟩
  · have h0 : ¬ x = 0 := fun e => by rw [e] at hw; exact absurd hw (by decide)
    have h1 : ¬ x = 1 := fun e => by rw [e] at hw; exact absurd hw (by decide)
    have h2 : ¬ x = 2 := fun e => by rw [e] at hw; exact absurd hw (by decide)
    refine g_tabOut (tgt := 35) C dX3_howMany_1 hw (by decide) ?_
    refine g_iconst (v := 4) (pc' := 36) C dX3_howMany_35 (by decide) rfl ?_
    exact g_iret C hR dX3_howMany_36 ⟨by simp [h0, h1, h2], rfl, rfl⟩
set_option maxRecDepth 20000 in
theorem m_X3_interpreterAtS {l : Launch} {g : wG} {z : wZ} {I : wI} {P : wP} {O : wO} {x : Int32} {j : Nat} (hj : x = nI j) (hj4 : j < 4) (hq : P 4 0 j = some j) : RT l yX3_interpreterAt cX3_interpreterAt 2 ((some (.object "Hearingpay$Interpreter"))) { frames := 0, cells := 0, slots := 0, locals := 0 } g z [.ref (g.2.2 0 0), .int x] I P O (dp (some (.ref (g.2.2 1 j))) (I) (P)) := by
  refine RT.of (own := RX3) rfl (by decide +kernel) (Nat.le_of_ble_eq_true rfl) rfl (fun K C hl hg hR => ?_)
  subst hl
  subst hg
  refine g_iload_n (pc' := 1) C dX3_interpreterAt_0 rfl rfl ?_
  refine g_if_lt (tgt := 22) (pc' := 4) C dX3_interpreterAt_1 (by decide) rfl (fun c1 => absurd c1 (by rw [hj]; exact nI_pos (by omega))) (fun c1 => ?_)
  refine g_iload_n (pc' := 5) C dX3_interpreterAt_4 rfl rfl ?_
  refine g_aload_n (pc' := 6) C dX3_interpreterAt_5 rfl rfl ?_
  refine f_X3_11 (pc' := 9) C dX3_interpreterAt_6 (by first | assumption | exact rfl | exact al13 rfl | exact Nat.le_of_ble_eq_true rfl) rfl ?_
  refine g_alen (pc' := 10) (v := 4) (t0 := 4) C dX3_interpreterAt_9 (by first | assumption | exact rfl | exact al13 rfl | exact Nat.le_of_ble_eq_true rfl) rfl rfl rfl rfl ?_
  refine g_icmp_ge (tgt := 22) (pc' := 13) C dX3_interpreterAt_10 (by decide) rfl (fun c2 => absurd c2 (by rw [hj]; exact nI_ge (a := j) (b := 4) (by omega) (by omega))) (fun c2 => ?_)
  refine g_aload_n (pc' := 14) C dX3_interpreterAt_13 rfl rfl ?_
  refine f_X3_11 (pc' := 17) C dX3_interpreterAt_14 (by first | assumption | exact rfl | exact al13 rfl | exact Nat.le_of_ble_eq_true rfl) rfl ?_
  refine g_iload_n (pc' := 18) C dX3_interpreterAt_17 rfl rfl ?_
  refine g_aald (pc' := 19) (t0 := 4) C (j) hj hj4 hq dX3_interpreterAt_18 (by first | assumption | exact rfl | exact al13 rfl | exact Nat.le_of_ble_eq_true rfl) rfl rfl rfl rfl ?_
  refine g_goto (tgt := 23) C dX3_interpreterAt_19 (by decide) ?_
  exact g_aret C hR dX3_interpreterAt_23 (Or.inr ⟨_, rfl⟩) ⟨rfl, rfl, rfl⟩
set_option maxRecDepth 20000 in
theorem m_X3_interpreterAtN {l : Launch} {g : wG} {z : wZ} {I : wI} {P : wP} {O : wO} {x : Int32} (h : x < 0 ∨ 4 ≤ x) : RT l yX3_interpreterAt cX3_interpreterAt 2 ((some (.object "Hearingpay$Interpreter"))) { frames := 0, cells := 0, slots := 0, locals := 0 } g z [.ref (g.2.2 0 0), .int x] I P O (dp (some (.null)) (I) (P)) := by
  refine RT.of (own := RX3) rfl (by decide +kernel) (Nat.le_of_ble_eq_true rfl) rfl (fun K C hl hg hR => ?_)
  subst hl
  subst hg
  refine g_iload_n (pc' := 1) C dX3_interpreterAt_0 rfl rfl ?_
  refine g_if_lt (tgt := 22) (pc' := 4) C dX3_interpreterAt_1 (by decide) rfl (fun c1 => ?_) (fun c1 => ?_)
  ·
    refine g_null (pc' := 23) C dX3_interpreterAt_22 rfl ?_
    exact g_aret C hR dX3_interpreterAt_23 (Or.inl rfl) ⟨rfl, rfl, rfl⟩
  ·
    refine g_iload_n (pc' := 5) C dX3_interpreterAt_4 rfl rfl ?_
    refine g_aload_n (pc' := 6) C dX3_interpreterAt_5 rfl rfl ?_
    refine f_X3_11 (pc' := 9) C dX3_interpreterAt_6 (by first | assumption | exact rfl | exact al13 rfl | exact Nat.le_of_ble_eq_true rfl) rfl ?_
    refine g_alen (pc' := 10) (v := 4) (t0 := 4) C dX3_interpreterAt_9 (by first | assumption | exact rfl | exact al13 rfl | exact Nat.le_of_ble_eq_true rfl) rfl rfl rfl rfl ?_
    refine g_icmp_ge (tgt := 22) (pc' := 13) C dX3_interpreterAt_10 (by decide) rfl (fun c2 => ?_) (fun c2 => absurd (h.resolve_left c1) c2)
    refine g_null (pc' := 23) C dX3_interpreterAt_22 rfl ?_
    exact g_aret C hR dX3_interpreterAt_23 (Or.inl rfl) ⟨rfl, rfl, rfl⟩
set_option maxRecDepth 20000 in
theorem m_X3_matterAtS {l : Launch} {g : wG} {z : wZ} {I : wI} {P : wP} {O : wO} {x : Int32} {j : Nat} (X : XI z I P) (hj : x = nI j) (hj4 : j < z.1) : RT l yX3_matterAt cX3_matterAt 2 ((some (.object "Hearingpay$Matter"))) { frames := 0, cells := 0, slots := 0, locals := 0 } g z [.ref (g.2.2 0 0), .int x] I P O (dp (some (.ref (g.2.2 2 j))) (I) (P)) := by
  refine RT.of (own := RX3) rfl (by decide +kernel) (Nat.le_of_ble_eq_true rfl) rfl (fun K C hl hg hR => ?_)
  subst hl
  subst hg
  have hc := X.2.2.1
  have hcap := X.1
  refine g_iload_n (pc' := 1) C dX3_matterAt_0 rfl rfl ?_
  refine g_if_lt (tgt := 30) (pc' := 4) C dX3_matterAt_1 (by decide) rfl (fun c1 => absurd c1 (by rw [hj]; exact nI_pos (by omega))) (fun c1 => ?_)
  refine g_iload_n (pc' := 5) C dX3_matterAt_4 rfl rfl ?_
  refine g_aload_n (pc' := 6) C dX3_matterAt_5 rfl rfl ?_
  refine f_X3_31 (pc' := 9) C dX3_matterAt_6 (by first | assumption | exact rfl | exact al13 rfl | exact Nat.le_of_ble_eq_true rfl) rfl ?_
  refine g_icmp_ge (tgt := 30) (pc' := 12) C dX3_matterAt_9 (by decide) rfl (fun c2 => absurd c2 (by rw [hj, hc]; exact nI_ge (by omega) (by omega))) (fun c2 => ?_)
  refine g_iload_n (pc' := 13) C dX3_matterAt_12 rfl rfl ?_
  refine g_aload_n (pc' := 14) C dX3_matterAt_13 rfl rfl ?_
  refine f_X3_21 (pc' := 17) C dX3_matterAt_14 (by first | assumption | exact rfl | exact al13 rfl | exact Nat.le_of_ble_eq_true rfl) rfl ?_
  refine g_alen (pc' := 18) (v := 12) (t0 := 2) C dX3_matterAt_17 (by first | assumption | exact rfl | exact al13 rfl | exact Nat.le_of_ble_eq_true rfl) rfl rfl rfl rfl ?_
  refine g_icmp_ge (tgt := 30) (pc' := 21) C dX3_matterAt_18 (by decide) rfl (fun c3 => absurd c3 (by rw [hj]; exact nI_ge (a := j) (b := 12) (by omega) (by omega))) (fun c3 => ?_)
  refine g_aload_n (pc' := 22) C dX3_matterAt_21 rfl rfl ?_
  refine f_X3_21 (pc' := 25) C dX3_matterAt_22 (by first | assumption | exact rfl | exact al13 rfl | exact Nat.le_of_ble_eq_true rfl) rfl ?_
  refine g_iload_n (pc' := 26) C dX3_matterAt_25 rfl rfl ?_
  refine g_aald (pc' := 27) (t0 := 2) C (j) hj (by omega) (X.2.2.2.2.1 j hj4) dX3_matterAt_26 (by first | assumption | exact rfl | exact al13 rfl | exact Nat.le_of_ble_eq_true rfl) rfl rfl rfl rfl ?_
  refine g_goto (tgt := 31) C dX3_matterAt_27 (by decide) ?_
  exact g_aret C hR dX3_matterAt_31 (Or.inr ⟨_, rfl⟩) ⟨rfl, rfl, rfl⟩
set_option maxRecDepth 20000 in
theorem m_X3_matterAtN {l : Launch} {g : wG} {z : wZ} {I : wI} {P : wP} {O : wO} {x : Int32} (X : XI z I P) (h : x < 0 ∨ nI z.1 ≤ x) : RT l yX3_matterAt cX3_matterAt 2 ((some (.object "Hearingpay$Matter"))) { frames := 0, cells := 0, slots := 0, locals := 0 } g z [.ref (g.2.2 0 0), .int x] I P O (dp (some (.null)) (I) (P)) := by
  refine RT.of (own := RX3) rfl (by decide +kernel) (Nat.le_of_ble_eq_true rfl) rfl (fun K C hl hg hR => ?_)
  subst hl
  subst hg
  refine g_iload_n (pc' := 1) C dX3_matterAt_0 rfl rfl ?_
  refine g_if_lt (tgt := 30) (pc' := 4) C dX3_matterAt_1 (by decide) rfl (fun c1 => ?_) (fun c1 => ?_)
  ·
    refine g_null (pc' := 31) C dX3_matterAt_30 rfl ?_
    exact g_aret C hR dX3_matterAt_31 (Or.inl rfl) ⟨rfl, rfl, rfl⟩
  ·
    refine g_iload_n (pc' := 5) C dX3_matterAt_4 rfl rfl ?_
    refine g_aload_n (pc' := 6) C dX3_matterAt_5 rfl rfl ?_
    refine f_X3_31 (pc' := 9) C dX3_matterAt_6 (by first | assumption | exact rfl | exact al13 rfl | exact Nat.le_of_ble_eq_true rfl) rfl ?_
    refine g_icmp_ge (tgt := 30) (pc' := 12) C dX3_matterAt_9 (by decide) rfl (fun c2 => ?_) (fun c2 => absurd (by rw [X.2.2.1]; exact h.resolve_left c1) c2)
    refine g_null (pc' := 31) C dX3_matterAt_30 rfl ?_
    exact g_aret C hR dX3_matterAt_31 (Or.inl rfl) ⟨rfl, rfl, rfl⟩
set_option maxRecDepth 20000 in
theorem m_X3_hearingAtS {l : Launch} {g : wG} {z : wZ} {I : wI} {P : wP} {O : wO} {x : Int32} {j : Nat} (X : XI z I P) (hj : x = nI j) (hj4 : j < z.2) : RT l yX3_hearingAt cX3_hearingAt 2 ((some (.object "Hearingpay$Hearing"))) { frames := 0, cells := 0, slots := 0, locals := 0 } g z [.ref (g.2.2 0 0), .int x] I P O (dp (some (.ref (g.2.2 3 j))) (I) (P)) := by
  refine RT.of (own := RX3) rfl (by decide +kernel) (Nat.le_of_ble_eq_true rfl) rfl (fun K C hl hg hR => ?_)
  subst hl
  subst hg
  have hc := X.2.2.2.1
  have hcap := X.2.1
  refine g_iload_n (pc' := 1) C dX3_hearingAt_0 rfl rfl ?_
  refine g_if_lt (tgt := 30) (pc' := 4) C dX3_hearingAt_1 (by decide) rfl (fun c1 => absurd c1 (by rw [hj]; exact nI_pos (by omega))) (fun c1 => ?_)
  refine g_iload_n (pc' := 5) C dX3_hearingAt_4 rfl rfl ?_
  refine g_aload_n (pc' := 6) C dX3_hearingAt_5 rfl rfl ?_
  refine f_X3_35 (pc' := 9) C dX3_hearingAt_6 (by first | assumption | exact rfl | exact al13 rfl | exact Nat.le_of_ble_eq_true rfl) rfl ?_
  refine g_icmp_ge (tgt := 30) (pc' := 12) C dX3_hearingAt_9 (by decide) rfl (fun c2 => absurd c2 (by rw [hj, hc]; exact nI_ge (by omega) (by omega))) (fun c2 => ?_)
  refine g_iload_n (pc' := 13) C dX3_hearingAt_12 rfl rfl ?_
  refine g_aload_n (pc' := 14) C dX3_hearingAt_13 rfl rfl ?_
  refine f_X3_27 (pc' := 17) C dX3_hearingAt_14 (by first | assumption | exact rfl | exact al13 rfl | exact Nat.le_of_ble_eq_true rfl) rfl ?_
  refine g_alen (pc' := 18) (v := 24) (t0 := 3) C dX3_hearingAt_17 (by first | assumption | exact rfl | exact al13 rfl | exact Nat.le_of_ble_eq_true rfl) rfl rfl rfl rfl ?_
  refine g_icmp_ge (tgt := 30) (pc' := 21) C dX3_hearingAt_18 (by decide) rfl (fun c3 => absurd c3 (by rw [hj]; exact nI_ge (a := j) (b := 24) (by omega) (by omega))) (fun c3 => ?_)
  refine g_aload_n (pc' := 22) C dX3_hearingAt_21 rfl rfl ?_
  refine f_X3_27 (pc' := 25) C dX3_hearingAt_22 (by first | assumption | exact rfl | exact al13 rfl | exact Nat.le_of_ble_eq_true rfl) rfl ?_
  refine g_iload_n (pc' := 26) C dX3_hearingAt_25 rfl rfl ?_
  refine g_aald (pc' := 27) (t0 := 3) C (j) hj (by omega) (X.2.2.2.2.2.1 j hj4) dX3_hearingAt_26 (by first | assumption | exact rfl | exact al13 rfl | exact Nat.le_of_ble_eq_true rfl) rfl rfl rfl rfl ?_
  refine g_goto (tgt := 31) C dX3_hearingAt_27 (by decide) ?_
  exact g_aret C hR dX3_hearingAt_31 (Or.inr ⟨_, rfl⟩) ⟨rfl, rfl, rfl⟩
set_option maxRecDepth 20000 in
theorem m_X3_hearingAtN {l : Launch} {g : wG} {z : wZ} {I : wI} {P : wP} {O : wO} {x : Int32} (X : XI z I P) (h : x < 0 ∨ nI z.2 ≤ x) : RT l yX3_hearingAt cX3_hearingAt 2 ((some (.object "Hearingpay$Hearing"))) { frames := 0, cells := 0, slots := 0, locals := 0 } g z [.ref (g.2.2 0 0), .int x] I P O (dp (some (.null)) (I) (P)) := by
  refine RT.of (own := RX3) rfl (by decide +kernel) (Nat.le_of_ble_eq_true rfl) rfl (fun K C hl hg hR => ?_)
  subst hl
  subst hg
  refine g_iload_n (pc' := 1) C dX3_hearingAt_0 rfl rfl ?_
  refine g_if_lt (tgt := 30) (pc' := 4) C dX3_hearingAt_1 (by decide) rfl (fun c1 => ?_) (fun c1 => ?_)
  ·
    refine g_null (pc' := 31) C dX3_hearingAt_30 rfl ?_
    exact g_aret C hR dX3_hearingAt_31 (Or.inl rfl) ⟨rfl, rfl, rfl⟩
  ·
    refine g_iload_n (pc' := 5) C dX3_hearingAt_4 rfl rfl ?_
    refine g_aload_n (pc' := 6) C dX3_hearingAt_5 rfl rfl ?_
    refine f_X3_35 (pc' := 9) C dX3_hearingAt_6 (by first | assumption | exact rfl | exact al13 rfl | exact Nat.le_of_ble_eq_true rfl) rfl ?_
    refine g_icmp_ge (tgt := 30) (pc' := 12) C dX3_hearingAt_9 (by decide) rfl (fun c2 => ?_) (fun c2 => absurd (by rw [X.2.2.2.1]; exact h.resolve_left c1) c2)
    refine g_null (pc' := 31) C dX3_hearingAt_30 rfl ?_
    exact g_aret C hR dX3_hearingAt_31 (Or.inl rfl) ⟨rfl, rfl, rfl⟩
set_option maxRecDepth 20000 in
theorem m_X3_isToBegin {l : Launch} {g : wG} {z : wZ} {I : wI} {P : wP} {O : wO} {h : Nat} (hh : wAl z 3 h) : RT l yX3_isToBegin cX3_isToBegin 2 ((some .boolean)) { frames := 0, cells := 0, slots := 0, locals := 0 } g z [.ref (g.2.2 0 0), .ref (g.2.2 3 h)] I P O (dp (some (.int (b2 (decide (I 3 h 4 = 0) && !decide (I 3 h 7 ≤ I 0 0 6))))) (I) (P)) := by
  refine RT.of (own := RX3) rfl (by decide +kernel) (Nat.le_of_ble_eq_true rfl) rfl (fun K C hl hg hR => ?_)
  subst hl
  subst hg
  refine g_aload_n (pc' := 1) C dX3_isToBegin_0 rfl rfl ?_
  refine f_X3_178 (pc' := 4) C dX3_isToBegin_1 (by first | assumption | exact rfl | exact al13 rfl | exact Nat.le_of_ble_eq_true rfl) rfl ?_
  refine g_if_ne (tgt := 22) (pc' := 7) C dX3_isToBegin_4 (by decide) rfl (fun c1 => ?_) (fun c1 => ?_)
  ·
    refine g_iconst (v := 0) (pc' := 23) C dX3_isToBegin_22 (by decide) rfl ?_
    exact g_zret C hR dX3_isToBegin_23 rfl ⟨by simp [b2, inn, c1], rfl, rfl⟩
  ·
    refine g_aload_n (pc' := 8) C dX3_isToBegin_7 rfl rfl ?_
    refine f_X3_189 (pc' := 11) C dX3_isToBegin_8 (by first | assumption | exact rfl | exact al13 rfl | exact Nat.le_of_ble_eq_true rfl) rfl ?_
    refine g_aload_n (pc' := 12) C dX3_isToBegin_11 rfl rfl ?_
    refine f_X3_38 (pc' := 15) C dX3_isToBegin_12 (by first | assumption | exact rfl | exact al13 rfl | exact Nat.le_of_ble_eq_true rfl) rfl ?_
    refine g_icmp_le (tgt := 22) (pc' := 18) C dX3_isToBegin_15 (by decide) rfl (fun c2 => ?_) (fun c2 => ?_)
    ·
      refine g_iconst (v := 0) (pc' := 23) C dX3_isToBegin_22 (by decide) rfl ?_
      exact g_zret C hR dX3_isToBegin_23 rfl ⟨by simp [b2, inn, c1, c2], rfl, rfl⟩
    ·
      refine g_iconst (v := 1) (pc' := 19) C dX3_isToBegin_18 (by decide) rfl ?_
      refine g_goto (tgt := 23) C dX3_isToBegin_19 (by decide) ?_
      exact g_zret C hR dX3_isToBegin_23 rfl ⟨by simp [b2, inn, c1, c2], rfl, rfl⟩
set_option maxRecDepth 20000 in
theorem m_X3_isAsNeeded {l : Launch} {g : wG} {z : wZ} {I : wI} {P : wP} {O : wO} {m : Nat} {x : Int32} (X : XI z I P) (hm2 : wAl z 2 m) : RT l yX3_isAsNeeded cX3_isAsNeeded 4 ((some .boolean)) { frames := 1, cells := 0, slots := 0, locals := 21 } g z [.ref (g.2.2 0 0), .ref (g.2.2 2 m), .int x] I P O (dp (some (.int (b2 (asN I m x)))) (I) (P)) := by
  refine RT.of (own := RX3) rfl (by decide +kernel) (Nat.le_of_ble_eq_true rfl) rfl (fun K C hl hg hR => ?_)
  subst hl
  subst hg
  refine g_aload_n (pc' := 1) C dX3_isAsNeeded_0 rfl rfl ?_
  refine g_iload_n (pc' := 2) C dX3_isAsNeeded_1 rfl rfl ?_
  rcases in_of x 4 (by decide) with ⟨j, hj4, hj⟩ | hx
  · have hn : ¬ (x < 0 ∨ 4 ≤ x) := by rw [hj]; exact fun e => e.elim (nI_pos (by omega)) (nI_ge (a := j) (b := 4) hj4 (by decide))
    have hcl : x.toNatClampNeg = j := by rw [hj]; exact nI_clamp (by omega)
    have hi : wAl z 1 j := hj4
    refine k_X3_42 (pc' := 5) C (m_X3_interpreterAtS hj hj4 (X.2.2.2.2.2.2.1 j hj4)) dX3_isAsNeeded_2 (by first | assumption | exact rfl | exact al13 rfl | exact Nat.le_of_ble_eq_true rfl) ⟨⟨Nat.le_of_ble_eq_true rfl, Nat.le_of_ble_eq_true rfl⟩, rfl, rfl⟩ (Nat.le_of_ble_eq_true rfl) ⟨Nat.zero_le _, Nat.zero_le _⟩ rfl ?_
    refine g_astore_n (pc' := 6) C dX3_isAsNeeded_5 rfl rfl ?_
    refine g_aload_n (pc' := 7) C dX3_isAsNeeded_6 rfl rfl ?_
    refine f_X3_233 (pc' := 10) C dX3_isAsNeeded_7 (by first | assumption | exact rfl | exact al13 rfl | exact Nat.le_of_ble_eq_true rfl) rfl ?_
    refine g_iconst (v := (-1)) (pc' := 11) C dX3_isAsNeeded_10 (by decide) rfl ?_
    refine g_icmp_eq (tgt := 18) (pc' := 14) C dX3_isAsNeeded_11 (by decide) rfl (fun c1 => ?_) (fun c1 => ?_)
    ·
      refine g_aload_n (pc' := 19) C dX3_isAsNeeded_18 rfl rfl ?_
      refine f_X3_233 (pc' := 22) C dX3_isAsNeeded_19 (by first | assumption | exact rfl | exact al13 rfl | exact Nat.le_of_ble_eq_true rfl) rfl ?_
      refine g_iconst (v := (-1)) (pc' := 23) C dX3_isAsNeeded_22 (by decide) rfl ?_
      refine g_icmp_ne (tgt := 34) (pc' := 26) C dX3_isAsNeeded_23 (by decide) rfl (fun c2 => ?_) (fun c2 => ?_)
      ·
        refine g_iconst (v := 0) (pc' := 35) C dX3_isAsNeeded_34 (by decide) rfl ?_
        exact g_zret C hR dX3_isAsNeeded_35 rfl ⟨by simp [b2, asN, hn, hcl, c1, c2] <;> simp_all, rfl, rfl⟩
      ·
        refine g_aload_n (pc' := 27) C dX3_isAsNeeded_26 rfl rfl ?_
        refine g_ifnonnull (tgt := 34) C dX3_isAsNeeded_27 (by decide) ?_
        refine g_iconst (v := 0) (pc' := 35) C dX3_isAsNeeded_34 (by decide) rfl ?_
        exact g_zret C hR dX3_isAsNeeded_35 rfl ⟨by simp [b2, asN, hn, hcl, c1, c2] <;> simp_all, rfl, rfl⟩
    ·
      refine g_aload_n (pc' := 15) C dX3_isAsNeeded_14 rfl rfl ?_
      refine g_ifnonnull (tgt := 36) C dX3_isAsNeeded_15 (by decide) ?_
      refine g_aload_n (pc' := 37) C dX3_isAsNeeded_36 rfl rfl ?_
      refine g_aload_n (pc' := 38) C dX3_isAsNeeded_37 rfl rfl ?_
      refine f_X3_233 (pc' := 41) C dX3_isAsNeeded_38 (by first | assumption | exact rfl | exact al13 rfl | exact Nat.le_of_ble_eq_true rfl) rfl ?_
      refine k_X3_257 (pc' := 44) C (m_X1_knows hi) dX3_isAsNeeded_41 (by first | assumption | exact rfl | exact al13 rfl | exact Nat.le_of_ble_eq_true rfl) ⟨⟨Nat.le_of_ble_eq_true rfl, Nat.le_of_ble_eq_true rfl⟩, rfl, rfl⟩ (Nat.le_of_ble_eq_true rfl) ⟨Nat.zero_le _, Nat.zero_le _⟩ rfl ?_
      exact g_zret C hR dX3_isAsNeeded_44 (b2_n _) ⟨by simp [asN, hn, hcl, c1], rfl, rfl⟩
  · have hx : x < 0 ∨ 4 ≤ x := hx
    refine k_X3_42 (pc' := 5) C (m_X3_interpreterAtN hx) dX3_isAsNeeded_2 (by first | assumption | exact rfl | exact al13 rfl | exact Nat.le_of_ble_eq_true rfl) ⟨⟨Nat.le_of_ble_eq_true rfl, Nat.le_of_ble_eq_true rfl⟩, rfl, rfl⟩ (Nat.le_of_ble_eq_true rfl) ⟨Nat.zero_le _, Nat.zero_le _⟩ rfl ?_
    refine g_astore_nN (pc' := 6) C dX3_isAsNeeded_5 rfl rfl ?_
    refine g_aload_n (pc' := 7) C dX3_isAsNeeded_6 rfl rfl ?_
    refine f_X3_233 (pc' := 10) C dX3_isAsNeeded_7 (by first | assumption | exact rfl | exact al13 rfl | exact Nat.le_of_ble_eq_true rfl) rfl ?_
    refine g_iconst (v := (-1)) (pc' := 11) C dX3_isAsNeeded_10 (by decide) rfl ?_
    refine g_icmp_eq (tgt := 18) (pc' := 14) C dX3_isAsNeeded_11 (by decide) rfl (fun c3 => ?_) (fun c3 => ?_)
    ·
      refine g_aload_n (pc' := 19) C dX3_isAsNeeded_18 rfl rfl ?_
      refine f_X3_233 (pc' := 22) C dX3_isAsNeeded_19 (by first | assumption | exact rfl | exact al13 rfl | exact Nat.le_of_ble_eq_true rfl) rfl ?_
      refine g_iconst (v := (-1)) (pc' := 23) C dX3_isAsNeeded_22 (by decide) rfl ?_
      refine g_icmp_ne (tgt := 34) (pc' := 26) C dX3_isAsNeeded_23 (by decide) rfl (fun c4 => ?_) (fun c4 => ?_)
      ·
        refine g_iconst (v := 0) (pc' := 35) C dX3_isAsNeeded_34 (by decide) rfl ?_
        exact g_zret C hR dX3_isAsNeeded_35 rfl ⟨by simp [b2, asN, hx, c3, c4] <;> simp_all, rfl, rfl⟩
      ·
        refine g_aload_nN (pc' := 27) C dX3_isAsNeeded_26 rfl rfl ?_
        refine g_ifnonnullN (pc' := 30) C dX3_isAsNeeded_27 rfl ?_
        refine g_iconst (v := 1) (pc' := 31) C dX3_isAsNeeded_30 (by decide) rfl ?_
        refine g_goto (tgt := 35) C dX3_isAsNeeded_31 (by decide) ?_
        exact g_zret C hR dX3_isAsNeeded_35 rfl ⟨by simp [b2, asN, hx, c3, c4] <;> simp_all, rfl, rfl⟩
    ·
      refine g_aload_nN (pc' := 15) C dX3_isAsNeeded_14 rfl rfl ?_
      refine g_ifnonnullN (pc' := 18) C dX3_isAsNeeded_15 rfl ?_
      refine g_aload_n (pc' := 19) C dX3_isAsNeeded_18 rfl rfl ?_
      refine f_X3_233 (pc' := 22) C dX3_isAsNeeded_19 (by first | assumption | exact rfl | exact al13 rfl | exact Nat.le_of_ble_eq_true rfl) rfl ?_
      refine g_iconst (v := (-1)) (pc' := 23) C dX3_isAsNeeded_22 (by decide) rfl ?_
      refine g_icmp_ne (tgt := 34) (pc' := 26) C dX3_isAsNeeded_23 (by decide) rfl (fun c5 => ?_) (fun c5 => ?_)
      ·
        refine g_iconst (v := 0) (pc' := 35) C dX3_isAsNeeded_34 (by decide) rfl ?_
        exact g_zret C hR dX3_isAsNeeded_35 rfl ⟨by simp [b2, asN, hx, c3, c5] <;> simp_all, rfl, rfl⟩
      ·
        refine g_aload_nN (pc' := 27) C dX3_isAsNeeded_26 rfl rfl ?_
        refine g_ifnonnullN (pc' := 30) C dX3_isAsNeeded_27 rfl ?_
        refine g_iconst (v := 1) (pc' := 31) C dX3_isAsNeeded_30 (by decide) rfl ?_
        refine g_goto (tgt := 35) C dX3_isAsNeeded_31 (by decide) ?_
        exact g_zret C hR dX3_isAsNeeded_35 rfl ⟨by simp [b2, asN, hx, c3, c5] <;> simp_all, rfl, rfl⟩
set_option maxRecDepth 20000 in
theorem l_X3_clashReasonN {K : wK} {z : wZ} {I : wI} {P : wP} {O : wO} {post : Option Value → wI → wP → Prop} {m : Nat} {r itp fr oh : Int32} (C : Cx K cX3_clashReason RX3 11 (some .int) { frames := 3, cells := 0, slots := 0, locals := 66 } z) (hR : Rx K z O post) (X : XI z I P) (hm2 : wAl z 2 m) : ∀ (n h : Nat) (x7 x8 : Int32), x8 = nI h → h + n = z.2 → post (some (.int (crL I P none m r itp fr oh n h x7))) I P → G K z I P O 0 0 6 [(0, .ref ((Kg K).2.2 0 0)), (1, .null), (2, .ref ((Kg K).2.2 2 m)), (3, .int r), (4, .int itp), (5, .int fr), (6, .int oh), (7, .int x7), (8, .int x8)] [] := by
  intro n
  induction n with
  | zero =>
    intro h x7 x8 ex8 hk hpost
    refine g_iload (pc' := 8) C dX3_clashReason_6 rfl rfl ?_
    refine g_aload_n (pc' := 9) C dX3_clashReason_8 rfl rfl ?_
    refine f_X3_35 (pc' := 12) C dX3_clashReason_9 (by first | assumption | exact rfl | exact al13 rfl | exact Nat.le_of_ble_eq_true rfl) rfl ?_
    refine g_icmp_ge (tgt := 84) (pc' := 15) C dX3_clashReason_12 (by decide) rfl (fun _ => ?_) (fun q => absurd (by rw [ex8, X.2.2.2.1, show h = z.2 by omega]; exact Int32.le_refl _) q)
    refine g_iload (pc' := 86) C dX3_clashReason_84 rfl rfl ?_
    exact g_iret C hR dX3_clashReason_86 hpost
  | succ n ih =>
    intro h x7 x8 ex8 hk hpost
    have hhz : h < z.2 := by omega
    have hh : wAl z 3 h := hhz
    refine g_iload (pc' := 8) C dX3_clashReason_6 rfl rfl ?_
    refine g_aload_n (pc' := 9) C dX3_clashReason_8 rfl rfl ?_
    refine f_X3_35 (pc' := 12) C dX3_clashReason_9 (by first | assumption | exact rfl | exact al13 rfl | exact Nat.le_of_ble_eq_true rfl) rfl ?_
    refine g_icmp_ge (tgt := 84) (pc' := 15) C dX3_clashReason_12 (by decide) rfl (fun c1 => absurd c1 (by rw [ex8, X.2.2.2.1]; exact nI_ge hhz (by have := X.2.1; omega))) (fun c1 => ?_)
    refine g_aload_n (pc' := 16) C dX3_clashReason_15 rfl rfl ?_
    refine g_iload (pc' := 18) C dX3_clashReason_16 rfl rfl ?_
    refine k_X3_149 (pc' := 21) C (m_X3_hearingAtS X ex8 hhz) dX3_clashReason_18 (by first | assumption | exact rfl | exact al13 rfl | exact Nat.le_of_ble_eq_true rfl) ⟨⟨Nat.le_of_ble_eq_true rfl, Nat.le_of_ble_eq_true rfl⟩, rfl, rfl⟩ (Nat.le_of_ble_eq_true rfl) ⟨Nat.zero_le _, Nat.zero_le _⟩ rfl ?_
    refine g_astore (pc' := 23) C dX3_clashReason_21 rfl rfl ?_
    refine g_aload (pc' := 25) C dX3_clashReason_23 rfl rfl ?_
    refine g_ifnull (pc' := 28) C dX3_clashReason_25 rfl ?_
    refine g_aload (pc' := 30) C dX3_clashReason_28 rfl rfl ?_
    refine g_aload_nN (pc' := 31) C dX3_clashReason_30 rfl rfl ?_
    refine g_acmp_eq (x := some _) (y := none) (tgt := 78) (pc' := 34) C dX3_clashReason_31 (by decide) rfl (fun q => by cases q) (fun _ => ?_)
    refine g_aload (pc' := 36) C dX3_clashReason_34 rfl rfl ?_
    refine g_iload (pc' := 38) C dX3_clashReason_36 rfl rfl ?_
    refine g_iload (pc' := 40) C dX3_clashReason_38 rfl rfl ?_
    refine k_X3_218 (pc' := 43) C (m_X0_takesPartOf hh) dX3_clashReason_40 (by first | assumption | exact rfl | exact al13 rfl | exact Nat.le_of_ble_eq_true rfl) ⟨⟨Nat.le_of_ble_eq_true rfl, Nat.le_of_ble_eq_true rfl⟩, rfl, rfl⟩ (Nat.le_of_ble_eq_true rfl) ⟨Nat.zero_le _, Nat.zero_le _⟩ rfl ?_
    refine g_if_eq (tgt := 78) (pc' := 46) C dX3_clashReason_43 (by decide) rfl (fun c2 => ?_) (fun c2 => ?_)
    ·
      have c2 := b2_0.mp c2
      refine g_iinc (pc' := 81) C dX3_clashReason_78 rfl (ii1 _) rfl rfl ?_
      refine g_goto (tgt := 6) C dX3_clashReason_81 (by decide) ?_
      refine G_pick [0, 1, 2, 3, 4, 5, 6, 7, 8] rfl (ih (h + 1) _ _ (by rw [ex8]; exact (nI_1 h)) (by omega) ?_)
      simpa [crL, crS, c1, c2] using hpost
    ·
      have c2 := b2_1.mp c2
      refine g_aload (pc' := 48) C dX3_clashReason_46 rfl rfl ?_
      refine g_aload_n (pc' := 49) C dX3_clashReason_48 rfl rfl ?_
      refine g_iload_n (pc' := 50) C dX3_clashReason_49 rfl rfl ?_
      refine g_iload (pc' := 52) C dX3_clashReason_50 rfl rfl ?_
      refine k_X3_260 (pc' := 55) C (m_X0_reasonAgainst hh (X.hm hh) (X.hm2 hh) hm2) dX3_clashReason_52 (by first | assumption | exact rfl | exact al13 rfl | exact Nat.le_of_ble_eq_true rfl) ⟨⟨Nat.le_of_ble_eq_true rfl, Nat.le_of_ble_eq_true rfl⟩, rfl, rfl⟩ (Nat.le_of_ble_eq_true rfl) ⟨Nat.zero_le _, Nat.zero_le _⟩ rfl ?_
      refine g_istore (pc' := 57) C dX3_clashReason_55 rfl rfl ?_
      refine g_iload (pc' := 59) C dX3_clashReason_57 rfl rfl ?_
      refine g_if_eq (tgt := 78) (pc' := 62) C dX3_clashReason_59 (by decide) rfl (fun c3 => ?_) (fun c3 => ?_)
      ·
        refine g_iinc (pc' := 81) C dX3_clashReason_78 rfl (ii1 _) rfl rfl ?_
        refine g_goto (tgt := 6) C dX3_clashReason_81 (by decide) ?_
        refine G_pick [0, 1, 2, 3, 4, 5, 6, 7, 8] rfl (ih (h + 1) _ _ (by rw [ex8]; exact (nI_1 h)) (by omega) ?_)
        simpa [crL, crS, c1, c2, c3] using hpost
      ·
        refine g_iload (pc' := 64) C dX3_clashReason_62 rfl rfl ?_
        refine g_if_eq (tgt := 74) (pc' := 67) C dX3_clashReason_64 (by decide) rfl (fun c4 => ?_) (fun c4 => ?_)
        ·
          refine g_iload (pc' := 76) C dX3_clashReason_74 rfl rfl ?_
          refine g_istore (pc' := 78) C dX3_clashReason_76 rfl rfl ?_
          refine g_iinc (pc' := 81) C dX3_clashReason_78 rfl (ii1 _) rfl rfl ?_
          refine g_goto (tgt := 6) C dX3_clashReason_81 (by decide) ?_
          refine G_pick [0, 1, 2, 3, 4, 5, 6, 7, 8] rfl (ih (h + 1) _ _ (by rw [ex8]; exact (nI_1 h)) (by omega) ?_)
          simpa [crL, crS, c1, c2, c3, c4] using hpost
        ·
          refine g_iload (pc' := 69) C dX3_clashReason_67 rfl rfl ?_
          refine g_iload (pc' := 71) C dX3_clashReason_69 rfl rfl ?_
          refine g_icmp_ge (tgt := 78) (pc' := 74) C dX3_clashReason_71 (by decide) rfl (fun c5 => ?_) (fun c5 => ?_)
          ·
            refine g_iinc (pc' := 81) C dX3_clashReason_78 rfl (ii1 _) rfl rfl ?_
            refine g_goto (tgt := 6) C dX3_clashReason_81 (by decide) ?_
            refine G_pick [0, 1, 2, 3, 4, 5, 6, 7, 8] rfl (ih (h + 1) _ _ (by rw [ex8]; exact (nI_1 h)) (by omega) ?_)
            simpa [crL, crS, c1, c2, c3, c4, c5] using hpost
          ·
            refine g_iload (pc' := 76) C dX3_clashReason_74 rfl rfl ?_
            refine g_istore (pc' := 78) C dX3_clashReason_76 rfl rfl ?_
            refine g_iinc (pc' := 81) C dX3_clashReason_78 rfl (ii1 _) rfl rfl ?_
            refine g_goto (tgt := 6) C dX3_clashReason_81 (by decide) ?_
            refine G_pick [0, 1, 2, 3, 4, 5, 6, 7, 8] rfl (ih (h + 1) _ _ (by rw [ex8]; exact (nI_1 h)) (by omega) ?_)
            simpa [crL, crS, c1, c2, c3, c4, c5] using hpost
set_option maxRecDepth 20000 in
theorem m_X3_clashReasonN {l : Launch} {g : wG} {z : wZ} {I : wI} {P : wP} {O : wO} {m : Nat} {r itp fr oh : Int32} (X : XI z I P) (hm2 : wAl z 2 m) : RT l yX3_clashReason cX3_clashReason 11 ((some .int)) { frames := 3, cells := 0, slots := 0, locals := 66 } g z [.ref (g.2.2 0 0), .null, .ref (g.2.2 2 m), .int r, .int itp, .int fr, .int oh] I P O (dp (some (.int (crL I P none m r itp fr oh z.2 0 0))) (I) (P)) := by
  refine RT.of (own := RX3) rfl (by decide +kernel) (Nat.le_of_ble_eq_true rfl) rfl (fun K C hl hg hR => ?_)
  subst hl
  subst hg
  refine g_iconst (v := 0) (pc' := 1) C dX3_clashReason_0 (by decide) rfl ?_
  refine g_istore (pc' := 3) C dX3_clashReason_1 rfl rfl ?_
  refine g_iconst (v := 0) (pc' := 4) C dX3_clashReason_3 (by decide) rfl ?_
  refine g_istore (pc' := 6) C dX3_clashReason_4 rfl rfl ?_
  exact l_X3_clashReasonN C hR X hm2 z.2 0 0 0 nI_0.symm (by omega) ⟨rfl, rfl, rfl⟩
set_option maxRecDepth 20000 in
theorem l_X3_clashReasonR {K : wK} {z : wZ} {I : wI} {P : wP} {O : wO} {post : Option Value → wI → wP → Prop} {m : Nat} {r itp fr oh : Int32} (C : Cx K cX3_clashReason RX3 11 (some .int) { frames := 3, cells := 0, slots := 0, locals := 66 } z) (hR : Rx K z O post) (X : XI z I P) (hm2 : wAl z 2 m) {i0 : Nat} (hi0 : wAl z 3 i0) : ∀ (n h : Nat) (x7 x8 : Int32), x8 = nI h → h + n = z.2 → post (some (.int (crL I P (some i0) m r itp fr oh n h x7))) I P → G K z I P O 0 0 6 [(0, .ref ((Kg K).2.2 0 0)), (1, .ref ((Kg K).2.2 3 i0)), (2, .ref ((Kg K).2.2 2 m)), (3, .int r), (4, .int itp), (5, .int fr), (6, .int oh), (7, .int x7), (8, .int x8)] [] := by
  intro n
  induction n with
  | zero =>
    intro h x7 x8 ex8 hk hpost
    refine g_iload (pc' := 8) C dX3_clashReason_6 rfl rfl ?_
    refine g_aload_n (pc' := 9) C dX3_clashReason_8 rfl rfl ?_
    refine f_X3_35 (pc' := 12) C dX3_clashReason_9 (by first | assumption | exact rfl | exact al13 rfl | exact Nat.le_of_ble_eq_true rfl) rfl ?_
    refine g_icmp_ge (tgt := 84) (pc' := 15) C dX3_clashReason_12 (by decide) rfl (fun _ => ?_) (fun q => absurd (by rw [ex8, X.2.2.2.1, show h = z.2 by omega]; exact Int32.le_refl _) q)
    refine g_iload (pc' := 86) C dX3_clashReason_84 rfl rfl ?_
    exact g_iret C hR dX3_clashReason_86 hpost
  | succ n ih =>
    intro h x7 x8 ex8 hk hpost
    have hhz : h < z.2 := by omega
    have hh : wAl z 3 h := hhz
    refine g_iload (pc' := 8) C dX3_clashReason_6 rfl rfl ?_
    refine g_aload_n (pc' := 9) C dX3_clashReason_8 rfl rfl ?_
    refine f_X3_35 (pc' := 12) C dX3_clashReason_9 (by first | assumption | exact rfl | exact al13 rfl | exact Nat.le_of_ble_eq_true rfl) rfl ?_
    refine g_icmp_ge (tgt := 84) (pc' := 15) C dX3_clashReason_12 (by decide) rfl (fun c1 => absurd c1 (by rw [ex8, X.2.2.2.1]; exact nI_ge hhz (by have := X.2.1; omega))) (fun c1 => ?_)
    refine g_aload_n (pc' := 16) C dX3_clashReason_15 rfl rfl ?_
    refine g_iload (pc' := 18) C dX3_clashReason_16 rfl rfl ?_
    refine k_X3_149 (pc' := 21) C (m_X3_hearingAtS X ex8 hhz) dX3_clashReason_18 (by first | assumption | exact rfl | exact al13 rfl | exact Nat.le_of_ble_eq_true rfl) ⟨⟨Nat.le_of_ble_eq_true rfl, Nat.le_of_ble_eq_true rfl⟩, rfl, rfl⟩ (Nat.le_of_ble_eq_true rfl) ⟨Nat.zero_le _, Nat.zero_le _⟩ rfl ?_
    refine g_astore (pc' := 23) C dX3_clashReason_21 rfl rfl ?_
    refine g_aload (pc' := 25) C dX3_clashReason_23 rfl rfl ?_
    refine g_ifnull (pc' := 28) C dX3_clashReason_25 rfl ?_
    refine g_aload (pc' := 30) C dX3_clashReason_28 rfl rfl ?_
    refine g_aload_n (pc' := 31) C dX3_clashReason_30 rfl rfl ?_
    refine g_acmp_eq2 (tgt := 78) (pc' := 34) C (by first | assumption | exact rfl | exact al13 rfl | exact Nat.le_of_ble_eq_true rfl) (by first | assumption | exact rfl | exact al13 rfl | exact Nat.le_of_ble_eq_true rfl) dX3_clashReason_31 (by decide) rfl (fun c2 => ?_) (fun c2 => ?_)
    ·
      refine g_iinc (pc' := 81) C dX3_clashReason_78 rfl (ii1 _) rfl rfl ?_
      refine g_goto (tgt := 6) C dX3_clashReason_81 (by decide) ?_
      refine G_pick [0, 1, 2, 3, 4, 5, 6, 7, 8] rfl (ih (h + 1) _ _ (by rw [ex8]; exact (nI_1 h)) (by omega) ?_)
      first | simpa [crL, crS, c1, c2, Ne.symm c2] using hpost | simpa [crL, crS, c1, c2] using hpost
    ·
      refine g_aload (pc' := 36) C dX3_clashReason_34 rfl rfl ?_
      refine g_iload (pc' := 38) C dX3_clashReason_36 rfl rfl ?_
      refine g_iload (pc' := 40) C dX3_clashReason_38 rfl rfl ?_
      refine k_X3_218 (pc' := 43) C (m_X0_takesPartOf hh) dX3_clashReason_40 (by first | assumption | exact rfl | exact al13 rfl | exact Nat.le_of_ble_eq_true rfl) ⟨⟨Nat.le_of_ble_eq_true rfl, Nat.le_of_ble_eq_true rfl⟩, rfl, rfl⟩ (Nat.le_of_ble_eq_true rfl) ⟨Nat.zero_le _, Nat.zero_le _⟩ rfl ?_
      refine g_if_eq (tgt := 78) (pc' := 46) C dX3_clashReason_43 (by decide) rfl (fun c3 => ?_) (fun c3 => ?_)
      ·
        have c3 := b2_0.mp c3
        refine g_iinc (pc' := 81) C dX3_clashReason_78 rfl (ii1 _) rfl rfl ?_
        refine g_goto (tgt := 6) C dX3_clashReason_81 (by decide) ?_
        refine G_pick [0, 1, 2, 3, 4, 5, 6, 7, 8] rfl (ih (h + 1) _ _ (by rw [ex8]; exact (nI_1 h)) (by omega) ?_)
        first | simpa [crL, crS, c1, c2, c3, Ne.symm c2] using hpost | simpa [crL, crS, c1, c2, c3] using hpost
      ·
        have c3 := b2_1.mp c3
        refine g_aload (pc' := 48) C dX3_clashReason_46 rfl rfl ?_
        refine g_aload_n (pc' := 49) C dX3_clashReason_48 rfl rfl ?_
        refine g_iload_n (pc' := 50) C dX3_clashReason_49 rfl rfl ?_
        refine g_iload (pc' := 52) C dX3_clashReason_50 rfl rfl ?_
        refine k_X3_260 (pc' := 55) C (m_X0_reasonAgainst hh (X.hm hh) (X.hm2 hh) hm2) dX3_clashReason_52 (by first | assumption | exact rfl | exact al13 rfl | exact Nat.le_of_ble_eq_true rfl) ⟨⟨Nat.le_of_ble_eq_true rfl, Nat.le_of_ble_eq_true rfl⟩, rfl, rfl⟩ (Nat.le_of_ble_eq_true rfl) ⟨Nat.zero_le _, Nat.zero_le _⟩ rfl ?_
        refine g_istore (pc' := 57) C dX3_clashReason_55 rfl rfl ?_
        refine g_iload (pc' := 59) C dX3_clashReason_57 rfl rfl ?_
        refine g_if_eq (tgt := 78) (pc' := 62) C dX3_clashReason_59 (by decide) rfl (fun c4 => ?_) (fun c4 => ?_)
        ·
          refine g_iinc (pc' := 81) C dX3_clashReason_78 rfl (ii1 _) rfl rfl ?_
          refine g_goto (tgt := 6) C dX3_clashReason_81 (by decide) ?_
          refine G_pick [0, 1, 2, 3, 4, 5, 6, 7, 8] rfl (ih (h + 1) _ _ (by rw [ex8]; exact (nI_1 h)) (by omega) ?_)
          first | simpa [crL, crS, c1, c2, c3, c4, Ne.symm c2] using hpost | simpa [crL, crS, c1, c2, c3, c4] using hpost
        ·
          refine g_iload (pc' := 64) C dX3_clashReason_62 rfl rfl ?_
          refine g_if_eq (tgt := 74) (pc' := 67) C dX3_clashReason_64 (by decide) rfl (fun c5 => ?_) (fun c5 => ?_)
          ·
            refine g_iload (pc' := 76) C dX3_clashReason_74 rfl rfl ?_
            refine g_istore (pc' := 78) C dX3_clashReason_76 rfl rfl ?_
            refine g_iinc (pc' := 81) C dX3_clashReason_78 rfl (ii1 _) rfl rfl ?_
            refine g_goto (tgt := 6) C dX3_clashReason_81 (by decide) ?_
            refine G_pick [0, 1, 2, 3, 4, 5, 6, 7, 8] rfl (ih (h + 1) _ _ (by rw [ex8]; exact (nI_1 h)) (by omega) ?_)
            first | simpa [crL, crS, c1, c2, c3, c4, c5, Ne.symm c2] using hpost | simpa [crL, crS, c1, c2, c3, c4, c5] using hpost
          ·
            refine g_iload (pc' := 69) C dX3_clashReason_67 rfl rfl ?_
            refine g_iload (pc' := 71) C dX3_clashReason_69 rfl rfl ?_
            refine g_icmp_ge (tgt := 78) (pc' := 74) C dX3_clashReason_71 (by decide) rfl (fun c6 => ?_) (fun c6 => ?_)
            ·
              refine g_iinc (pc' := 81) C dX3_clashReason_78 rfl (ii1 _) rfl rfl ?_
              refine g_goto (tgt := 6) C dX3_clashReason_81 (by decide) ?_
              refine G_pick [0, 1, 2, 3, 4, 5, 6, 7, 8] rfl (ih (h + 1) _ _ (by rw [ex8]; exact (nI_1 h)) (by omega) ?_)
              first | simpa [crL, crS, c1, c2, c3, c4, c5, c6, Ne.symm c2] using hpost | simpa [crL, crS, c1, c2, c3, c4, c5, c6] using hpost
            ·
              refine g_iload (pc' := 76) C dX3_clashReason_74 rfl rfl ?_
              refine g_istore (pc' := 78) C dX3_clashReason_76 rfl rfl ?_
              refine g_iinc (pc' := 81) C dX3_clashReason_78 rfl (ii1 _) rfl rfl ?_
              refine g_goto (tgt := 6) C dX3_clashReason_81 (by decide) ?_
              refine G_pick [0, 1, 2, 3, 4, 5, 6, 7, 8] rfl (ih (h + 1) _ _ (by rw [ex8]; exact (nI_1 h)) (by omega) ?_)
              first | simpa [crL, crS, c1, c2, c3, c4, c5, c6, Ne.symm c2] using hpost | simpa [crL, crS, c1, c2, c3, c4, c5, c6] using hpost
set_option maxRecDepth 20000 in
theorem m_X3_clashReasonR {l : Launch} {g : wG} {z : wZ} {I : wI} {P : wP} {O : wO} {m : Nat} {r itp fr oh : Int32} (X : XI z I P) (hm2 : wAl z 2 m) {i0 : Nat} (hi0 : wAl z 3 i0) : RT l yX3_clashReason cX3_clashReason 11 ((some .int)) { frames := 3, cells := 0, slots := 0, locals := 66 } g z [.ref (g.2.2 0 0), .ref (g.2.2 3 i0), .ref (g.2.2 2 m), .int r, .int itp, .int fr, .int oh] I P O (dp (some (.int (crL I P (some i0) m r itp fr oh z.2 0 0))) (I) (P)) := by
  refine RT.of (own := RX3) rfl (by decide +kernel) (Nat.le_of_ble_eq_true rfl) rfl (fun K C hl hg hR => ?_)
  subst hl
  subst hg
  refine g_iconst (v := 0) (pc' := 1) C dX3_clashReason_0 (by decide) rfl ?_
  refine g_istore (pc' := 3) C dX3_clashReason_1 rfl rfl ?_
  refine g_iconst (v := 0) (pc' := 4) C dX3_clashReason_3 (by decide) rfl ?_
  refine g_istore (pc' := 6) C dX3_clashReason_4 rfl rfl ?_
  exact l_X3_clashReasonR C hR X hm2 hi0 z.2 0 0 0 nI_0.symm (by omega) ⟨rfl, rfl, rfl⟩
set_option maxRecDepth 20000 in
theorem m_X3_feeFor {l : Launch} {g : wG} {z : wZ} {I : wI} {P : wP} {O : wO} {m : Nat} {x : Int32} (X : XI z I P) (hm2 : wAl z 2 m) : RT l yX3_feeFor cX3_feeFor 4 ((some .int)) { frames := 0, cells := 0, slots := 0, locals := 0 } g z [.ref (g.2.2 0 0), .ref (g.2.2 2 m), .int x] I P O (dp (some (.int (ff I m x))) (I) (P)) := by
  refine RT.of (own := RX3) rfl (by decide +kernel) (Nat.le_of_ble_eq_true rfl) rfl (fun K C hl hg hR => ?_)
  subst hl
  subst hg
  have hf := X.fs hm2
  have hf6 := X.fs6 hm2
  refine g_aload_n (pc' := 1) C dX3_feeFor_0 rfl rfl ?_
  refine f_X3_227 (pc' := 4) C dX3_feeFor_1 (by first | assumption | exact rfl | exact al13 rfl | exact Nat.le_of_ble_eq_true rfl) rfl ?_
  refine g_if_lt (tgt := 35) (pc' := 7) C dX3_feeFor_4 (by decide) rfl (fun c1 => absurd c1 (by rw [hf]; exact nI_pos (by omega))) (fun c1 => ?_)
  refine g_aload_n (pc' := 8) C dX3_feeFor_7 rfl rfl ?_
  refine f_X3_227 (pc' := 11) C dX3_feeFor_8 (by first | assumption | exact rfl | exact al13 rfl | exact Nat.le_of_ble_eq_true rfl) rfl ?_
  refine g_aload_n (pc' := 12) C dX3_feeFor_11 rfl rfl ?_
  refine f_X3_15 (pc' := 15) C dX3_feeFor_12 (by first | assumption | exact rfl | exact al13 rfl | exact Nat.le_of_ble_eq_true rfl) rfl ?_
  refine g_alen (pc' := 16) (v := 6) (t0 := 1) C dX3_feeFor_15 (by first | assumption | exact rfl | exact al13 rfl | exact Nat.le_of_ble_eq_true rfl) rfl rfl rfl rfl ?_
  refine g_icmp_ge (tgt := 35) (pc' := 19) C dX3_feeFor_16 (by decide) rfl (fun c2 => absurd c2 (by rw [hf]; exact nI_ge (a := fsN I m) (b := 6) hf6 (by decide))) (fun c2 => ?_)
  refine g_aload_n (pc' := 20) C dX3_feeFor_19 rfl rfl ?_
  refine f_X3_15 (pc' := 23) C dX3_feeFor_20 (by first | assumption | exact rfl | exact al13 rfl | exact Nat.le_of_ble_eq_true rfl) rfl ?_
  refine g_aload_n (pc' := 24) C dX3_feeFor_23 rfl rfl ?_
  refine f_X3_227 (pc' := 27) C dX3_feeFor_24 (by first | assumption | exact rfl | exact al13 rfl | exact Nat.le_of_ble_eq_true rfl) rfl ?_
  refine g_zald (pc' := 28) C (fsN I m) hf hf6 dX3_feeFor_27 (by first | assumption | exact rfl | exact al13 rfl | exact Nat.le_of_ble_eq_true rfl) rfl rfl rfl ?_
  refine g_if_eq (tgt := 35) (pc' := 31) C dX3_feeFor_28 (by decide) rfl (fun c3 => ?_) (fun c3 => ?_)
  ·
    refine g_iconst (v := 0) (pc' := 36) C dX3_feeFor_35 (by decide) rfl ?_
    refine g_istore_n (pc' := 37) C dX3_feeFor_36 rfl rfl ?_
    refine g_iload_n (pc' := 38) C dX3_feeFor_37 rfl rfl ?_
    refine g_if_eq (tgt := 45) (pc' := 41) C dX3_feeFor_38 (by decide) rfl (fun c4 => ?_) (fun c4 => absurd (by first | decide | rw [thv]; decide) c4)
    refine g_iload_n (pc' := 46) C dX3_feeFor_45 rfl rfl ?_
    exact g_iret C hR dX3_feeFor_46 ⟨by simp [ff, c1, c2, c3, c4] <;> (intros; simp_all) , rfl, rfl⟩
  ·
    refine g_iconst (v := 1) (pc' := 32) C dX3_feeFor_31 (by decide) rfl ?_
    refine g_goto (tgt := 36) C dX3_feeFor_32 (by decide) ?_
    refine g_istore_n (pc' := 37) C dX3_feeFor_36 rfl rfl ?_
    refine g_iload_n (pc' := 38) C dX3_feeFor_37 rfl rfl ?_
    refine g_if_eq (tgt := 45) (pc' := 41) C dX3_feeFor_38 (by decide) rfl (fun c5 => absurd c5 (by first | decide | rw [thv]; decide)) (fun c5 => ?_)
    refine g_iconst (v := 0) (pc' := 42) C dX3_feeFor_41 (by decide) rfl ?_
    refine g_goto (tgt := 46) C dX3_feeFor_42 (by decide) ?_
    exact g_iret C hR dX3_feeFor_46 ⟨by simp [ff, c1, c2, c3, c5] <;> (intros; simp_all) , rfl, rfl⟩
set_option maxRecDepth 20000 in
theorem m_X3_hour {l : Launch} {g : wG} {z : wZ} {I : wI} {P : wP} {O : wO} : RT l yX3_hour cX3_hour 1 ((some .int)) { frames := 0, cells := 0, slots := 0, locals := 0 } g z [.ref (g.2.2 0 0)] I P O (dp (some (.int (I 0 0 6))) (I) (P)) := by
  refine RT.of (own := RX3) rfl (by decide +kernel) (Nat.le_of_ble_eq_true rfl) rfl (fun K C hl hg hR => ?_)
  subst hl
  subst hg
  refine g_aload_n (pc' := 1) C dX3_hour_0 rfl rfl ?_
  refine f_X3_38 (pc' := 4) C dX3_hour_1 (by first | assumption | exact rfl | exact al13 rfl | exact Nat.le_of_ble_eq_true rfl) rfl ?_
  exact g_iret C hR dX3_hour_4 ⟨rfl, rfl, rfl⟩
end WHelp
