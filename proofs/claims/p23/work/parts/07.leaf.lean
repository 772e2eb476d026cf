section WLeaf
def b2 (b : Bool) : Int32 := bif b then 1 else 0
theorem b2_0 {b : Bool} : b2 b = 0 ↔ b = false := by cases b <;> decide
theorem b2_1 {b : Bool} : ¬ b2 b = 0 ↔ b = true := by cases b <;> decide
theorem b2_n (b : Bool) : narrow .boolean (.int (b2 b)) = .int (b2 b) := by cases b <;> rfl
theorem ii1 (x : Int32) : x + Int32.ofInt 1 = x + 1 := by rw [show Int32.ofInt 1 = 1 from by decide]
def isOp (s : Int32) : Bool := decide (s = 0) || decide (s = 1)
def rT (I : wI) (m : Nat) (now : Int32) : wI := if I 2 m 5 = 3 then upI I 2 m 7 (I 2 m 7 + 1) else if isOp (I 2 m 5) = true ∧ ¬ now < I 2 m 7 then upI I 2 m 5 5 else I
def sA (I : wI) (h : Nat) (r i f : Int32) : wI := upI (upI (upI (upI (upI I 3 h 5 r) 3 h 6 i) 3 h 7 f) 3 h 8 0) 3 h 9 0
def tp (I : wI) (h : Nat) (fr oh : Int32) : Bool := decide (I 3 h 4 = 0) && (!decide (fr + oh ≤ I 3 h 7) && !decide (I 3 h 7 + I 3 h 2 ≤ fr))
def nd (I : wI) (m h : Nat) (what who : Int32) : Bool := if what = 0 then decide (I 3 h 5 = who) else if what = 1 then decide (I 2 m 1 = who) else if what = 2 then (decide (who = I 2 m 2) || decide (who = I 2 m 3)) else decide (I 3 h 6 = who)
def ra (I : wI) (m h m2 : Nat) (r itp : Int32) : Int32 := if nd I m h 0 r = true then 1 else if nd I m h 1 (I 2 m2 1) = true then 2 else if nd I m h 2 (I 2 m2 2) = true ∨ nd I m h 2 (I 2 m2 3) = true then 3 else if ¬ itp = -1 ∧ nd I m h 3 itp = true then 4 else 0
def tl1 (I : wI) (m h : Nat) (p : Int32) : wI := if p = I 2 m 2 then upI I 3 h 8 1 else I
def tl (I : wI) (m h : Nat) (p : Int32) : wI := if p = I 2 m 3 then upI (tl1 I m h p) 3 h 9 1 else tl1 I m h p
def ntc (I : wI) (h : Nat) : Int32 := (if I 3 h 8 = 0 then 0 else 1) + (if I 3 h 9 = 0 then 0 else 1)
def chg (I : wI) (h : Nat) : Int32 := 0 + I 11 h 0 + I 11 h 1 + I 11 h 2 + I 11 h 3
def hE (I : wI) (m h : Nat) : wI := if isOp (I 2 m 5) = true ∧ ¬ I 3 h 8 = 0 ∧ ¬ I 3 h 9 = 0 then upI (upI I 3 h 4 1) 2 m 5 1 else upI I 3 h 4 2
def rg (x : Int32) : Nat := (x &&& 15).toNatClampNeg
theorem rg_of (x : Int32) : ∃ j : Nat, j < 16 ∧ x &&& 15 = nI j := by
  obtain ⟨j, h1, h2⟩ := pk_andE x (m := 15) 4 (by decide)
  exact ⟨j, h1, h2⟩
theorem rg_eq (x : Int32) : x &&& 15 = nI (rg x) := by
  obtain ⟨j, h1, h2⟩ := rg_of x
  unfold rg
  rw [h2, nI_clamp (by omega)]
theorem rg_lt (x : Int32) : rg x < 16 := by
  obtain ⟨j, h1, h2⟩ := rg_of x
  unfold rg
  rw [h2, nI_clamp (by omega)]
  exact h1
def kn (I : wI) (i : Nat) (l : Int32) : Bool := decide ((I 1 i 0 >>> (l &&& 31)) &&& 1 = 1)
def py (I : wI) (P : wP) (i : Nat) (hour now : Int32) : Option Nat := if ¬ hour ≤ now ∧ I 8 i (rg hour) = hour then P 9 i (rg hour) else none
def kpI (I : wI) (i : Nat) (hour amt : Int32) : wI := upI (upI I 8 i (rg hour) hour) 10 i (rg hour) amt
def kpP (P : wP) (i m : Nat) (hour : Int32) : wP := upP P 9 i (rg hour) (some m)
def tkR (I : wI) (P : wP) (i m : Nat) (hour now : Int32) : Int32 := match py I P i hour now with
  | none => I 1 i 1
  | some q => if q = m then 0 else I 10 i (rg hour) / 2
def tkI (I : wI) (P : wP) (i m : Nat) (hour now : Int32) : wI := match py I P i hour now with
  | none => I
  | some q => if q = m then I else upI I 2 q 6 (I 2 q 6 + I 10 i (rg hour) / 2)
def tkP (I : wI) (P : wP) (i : Nat) (hour now : Int32) : wP := match py I P i hour now with
  | none => P
  | some _ => upP P 9 i (rg hour) none
def hpL (I : wI) (P : wP) (i m : Nat) (now : Int32) : Nat → Nat → Int32 → Int32
  | 0, _, x => x
  | n + 1, k, x => hpL I P i m now n (k + 1) (if P 9 i k = some m ∧ ¬ I 8 i k ≤ now then x + 1 else x)
theorem tsw2 (x : Int32) : x = 0 ∨ x = 1 ∨ x = 2 ∨ (x.toInt < 0 ∨ 2 < x.toInt) := by
  by_cases h : x.toInt < 0 ∨ 2 < x.toInt
  · exact Or.inr (Or.inr (Or.inr h))
  · have h3 : x.toInt = 0 ∨ x.toInt = 1 ∨ x.toInt = 2 := by omega
    rcases h3 with h3 | h3 | h3
    · exact Or.inl (Int32.toInt_inj.mp h3)
    · exact Or.inr (Or.inl (Int32.toInt_inj.mp h3))
    · exact Or.inr (Or.inr (Or.inl (Int32.toInt_inj.mp h3)))
set_option maxRecDepth 20000 in
theorem m_X2_isOpen {l : Launch} {g : wG} {z : wZ} {I : wI} {P : wP} {O : wO} {m : Nat} (hm2 : wAl z 2 m) : RT l yX2_isOpen cX2_isOpen 1 ((some .boolean)) { frames := 0, cells := 0, slots := 0, locals := 0 } g z [.ref (g.2.2 2 m)] I P O (dp (some (.int (b2 (isOp (I 2 m 5))))) (I) (P)) := by
  refine RT.of (own := RX2) rfl (by decide +kernel) (Nat.le_of_ble_eq_true rfl) rfl (fun K C hl hg hR => ?_)
  subst hl
  subst hg
  refine g_aload_n (pc' := 1) C dX2_isOpen_0 rfl rfl ?_
  refine f_X2_9 (pc' := 4) C dX2_isOpen_1 (by first | assumption | exact rfl | exact al13 rfl | exact Nat.le_of_ble_eq_true rfl) rfl ?_
  refine g_if_eq (tgt := 15) (pc' := 7) C dX2_isOpen_4 (by decide) rfl (fun c1 => ?_) (fun c1 => ?_)
  ·
    refine g_iconst (v := 1) (pc' := 16) C dX2_isOpen_15 (by decide) rfl ?_
    refine g_goto (tgt := 20) C dX2_isOpen_16 (by decide) ?_
    exact g_zret C hR dX2_isOpen_20 rfl ⟨by simp [b2, isOp, c1], rfl, rfl⟩
  ·
    refine g_aload_n (pc' := 8) C dX2_isOpen_7 rfl rfl ?_
    refine f_X2_9 (pc' := 11) C dX2_isOpen_8 (by first | assumption | exact rfl | exact al13 rfl | exact Nat.le_of_ble_eq_true rfl) rfl ?_
    refine g_iconst (v := 1) (pc' := 12) C dX2_isOpen_11 (by decide) rfl ?_
    refine g_icmp_ne (tgt := 19) (pc' := 15) C dX2_isOpen_12 (by decide) rfl (fun c2 => ?_) (fun c2 => ?_)
    ·
      refine g_iconst (v := 0) (pc' := 20) C dX2_isOpen_19 (by decide) rfl ?_
      exact g_zret C hR dX2_isOpen_20 rfl ⟨by simp [b2, isOp, c1, c2], rfl, rfl⟩
    ·
      refine g_iconst (v := 1) (pc' := 16) C dX2_isOpen_15 (by decide) rfl ?_
      refine g_goto (tgt := 20) C dX2_isOpen_16 (by decide) ?_
      exact g_zret C hR dX2_isOpen_20 rfl ⟨by simp [b2, isOp, c1, c2], rfl, rfl⟩
set_option maxRecDepth 20000 in
theorem m_X2_isOf {l : Launch} {g : wG} {z : wZ} {I : wI} {P : wP} {O : wO} {m : Nat} {x : Int32} (hm2 : wAl z 2 m) : RT l yX2_isOf cX2_isOf 2 ((some .boolean)) { frames := 0, cells := 0, slots := 0, locals := 0 } g z [.ref (g.2.2 2 m), .int x] I P O (dp (some (.int (b2 (decide (x = I 2 m 2) || decide (x = I 2 m 3))))) (I) (P)) := by
  refine RT.of (own := RX2) rfl (by decide +kernel) (Nat.le_of_ble_eq_true rfl) rfl (fun K C hl hg hR => ?_)
  subst hl
  subst hg
  refine g_iload_n (pc' := 1) C dX2_isOf_0 rfl rfl ?_
  refine g_aload_n (pc' := 2) C dX2_isOf_1 rfl rfl ?_
  refine f_X2_24 (pc' := 5) C dX2_isOf_2 (by first | assumption | exact rfl | exact al13 rfl | exact Nat.le_of_ble_eq_true rfl) rfl ?_
  refine g_icmp_eq (tgt := 16) (pc' := 8) C dX2_isOf_5 (by decide) rfl (fun c1 => ?_) (fun c1 => ?_)
  ·
    refine g_iconst (v := 1) (pc' := 17) C dX2_isOf_16 (by decide) rfl ?_
    refine g_goto (tgt := 21) C dX2_isOf_17 (by decide) ?_
    exact g_zret C hR dX2_isOf_21 rfl ⟨by simp [b2, isOp, c1], rfl, rfl⟩
  ·
    refine g_iload_n (pc' := 9) C dX2_isOf_8 rfl rfl ?_
    refine g_aload_n (pc' := 10) C dX2_isOf_9 rfl rfl ?_
    refine f_X2_27 (pc' := 13) C dX2_isOf_10 (by first | assumption | exact rfl | exact al13 rfl | exact Nat.le_of_ble_eq_true rfl) rfl ?_
    refine g_icmp_ne (tgt := 20) (pc' := 16) C dX2_isOf_13 (by decide) rfl (fun c2 => ?_) (fun c2 => ?_)
    ·
      refine g_iconst (v := 0) (pc' := 21) C dX2_isOf_20 (by decide) rfl ?_
      exact g_zret C hR dX2_isOf_21 rfl ⟨by simp [b2, isOp, c1, c2], rfl, rfl⟩
    ·
      refine g_iconst (v := 1) (pc' := 17) C dX2_isOf_16 (by decide) rfl ?_
      refine g_goto (tgt := 21) C dX2_isOf_17 (by decide) ?_
      exact g_zret C hR dX2_isOf_21 rfl ⟨by simp [b2, isOp, c1, c2], rfl, rfl⟩
set_option maxRecDepth 20000 in
theorem m_X2_runTerm {l : Launch} {g : wG} {z : wZ} {I : wI} {P : wP} {O : wO} {m : Nat} {x : Int32} (hm2 : wAl z 2 m) : RT l yX2_runTerm cX2_runTerm 2 (none) { frames := 1, cells := 0, slots := 0, locals := 20 } g z [.ref (g.2.2 2 m), .int x] I P O (dp (none) (rT I m x) (P)) := by
  refine RT.of (own := RX2) rfl (by decide +kernel) (Nat.le_of_ble_eq_true rfl) rfl (fun K C hl hg hR => ?_)
  subst hl
  subst hg
  refine g_aload_n (pc' := 1) C dX2_runTerm_0 rfl rfl ?_
  refine f_X2_9 (pc' := 4) C dX2_runTerm_1 (by first | assumption | exact rfl | exact al13 rfl | exact Nat.le_of_ble_eq_true rfl) rfl ?_
  refine g_iconst (v := 3) (pc' := 5) C dX2_runTerm_4 (by decide) rfl ?_
  refine g_icmp_ne (tgt := 21) (pc' := 8) C dX2_runTerm_5 (by decide) rfl (fun c1 => ?_) (fun c1 => ?_)
  ·
    refine g_aload_n (pc' := 22) C dX2_runTerm_21 rfl rfl ?_
    refine k_X2_36 (pc' := 25) C (m_X2_isOpen hm2) dX2_runTerm_22 (by first | assumption | exact rfl | exact al13 rfl | exact Nat.le_of_ble_eq_true rfl) ⟨⟨Nat.le_of_ble_eq_true rfl, Nat.le_of_ble_eq_true rfl⟩, rfl, rfl⟩ (Nat.le_of_ble_eq_true rfl) ⟨Nat.zero_le _, Nat.zero_le _⟩ rfl ?_
    refine g_if_eq (tgt := 41) (pc' := 28) C dX2_runTerm_25 (by decide) rfl (fun c2 => ?_) (fun c2 => ?_)
    ·
      have c2 := b2_0.mp c2
      exact g_vret C hR dX2_runTerm_41 ⟨rfl, by simp [rT, c1, c2], rfl⟩
    ·
      have c2 := b2_1.mp c2
      refine g_aload_n (pc' := 29) C dX2_runTerm_28 rfl rfl ?_
      refine f_X2_33 (pc' := 32) C dX2_runTerm_29 (by first | assumption | exact rfl | exact al13 rfl | exact Nat.le_of_ble_eq_true rfl) rfl ?_
      refine g_iload_n (pc' := 33) C dX2_runTerm_32 rfl rfl ?_
      refine g_icmp_gt (tgt := 41) (pc' := 36) C dX2_runTerm_33 (by decide) rfl (fun c3 => ?_) (fun c3 => ?_)
      ·
        exact g_vret C hR dX2_runTerm_41 ⟨rfl, by simp [rT, c1, c2, c3], rfl⟩
      ·
        refine g_aload_n (pc' := 37) C dX2_runTerm_36 rfl rfl ?_
        refine g_iconst (v := 5) (pc' := 38) C dX2_runTerm_37 (by decide) rfl ?_
        refine p_X2_9 (pc' := 41) C dX2_runTerm_38 (by first | assumption | exact rfl | exact al13 rfl | exact Nat.le_of_ble_eq_true rfl) rfl ?_
        exact g_vret C hR dX2_runTerm_41 ⟨rfl, by simp [rT, c1, c2, c3], rfl⟩
  ·
    refine g_aload_n (pc' := 9) C dX2_runTerm_8 rfl rfl ?_
    refine g_dup (pc' := 10) C dX2_runTerm_9 rfl rfl ?_
    refine f_X2_33 (pc' := 13) C dX2_runTerm_10 (by first | assumption | exact rfl | exact al13 rfl | exact Nat.le_of_ble_eq_true rfl) rfl ?_
    refine g_iconst (v := 1) (pc' := 14) C dX2_runTerm_13 (by decide) rfl ?_
    refine g_iadd (pc' := 15) C dX2_runTerm_14 rfl ?_
    refine p_X2_33 (pc' := 18) C dX2_runTerm_15 (by first | assumption | exact rfl | exact al13 rfl | exact Nat.le_of_ble_eq_true rfl) rfl ?_
    refine g_goto (tgt := 41) C dX2_runTerm_18 (by decide) ?_
    exact g_vret C hR dX2_runTerm_41 ⟨rfl, by simp [rT, c1], rfl⟩
set_option maxRecDepth 20000 in
theorem m_X0_settleAt {l : Launch} {g : wG} {z : wZ} {I : wI} {P : wP} {O : wO} {h : Nat} {x y w : Int32} (hh : wAl z 3 h) : RT l yX0_settleAt cX0_settleAt 4 (none) { frames := 0, cells := 0, slots := 0, locals := 0 } g z [.ref (g.2.2 3 h), .int x, .int y, .int w] I P O (dp (none) (sA I h x y w) (P)) := by
  refine RT.of (own := RX0) rfl (by decide +kernel) (Nat.le_of_ble_eq_true rfl) rfl (fun K C hl hg hR => ?_)
  subst hl
  subst hg
  refine g_aload_n (pc' := 1) C dX0_settleAt_0 rfl rfl ?_
  refine g_iload_n (pc' := 2) C dX0_settleAt_1 rfl rfl ?_
  refine p_X0_19 (pc' := 5) C dX0_settleAt_2 (by first | assumption | exact rfl | exact al13 rfl | exact Nat.le_of_ble_eq_true rfl) rfl ?_
  refine g_aload_n (pc' := 6) C dX0_settleAt_5 rfl rfl ?_
  refine g_iload_n (pc' := 7) C dX0_settleAt_6 rfl rfl ?_
  refine p_X0_22 (pc' := 10) C dX0_settleAt_7 (by first | assumption | exact rfl | exact al13 rfl | exact Nat.le_of_ble_eq_true rfl) rfl ?_
  refine g_aload_n (pc' := 11) C dX0_settleAt_10 rfl rfl ?_
  refine g_iload_n (pc' := 12) C dX0_settleAt_11 rfl rfl ?_
  refine p_X0_25 (pc' := 15) C dX0_settleAt_12 (by first | assumption | exact rfl | exact al13 rfl | exact Nat.le_of_ble_eq_true rfl) rfl ?_
  refine g_aload_n (pc' := 16) C dX0_settleAt_15 rfl rfl ?_
  refine g_iconst (v := 0) (pc' := 17) C dX0_settleAt_16 (by decide) rfl ?_
  refine p_X0_28 (pc' := 20) C dX0_settleAt_17 (by first | assumption | exact rfl | exact al13 rfl | exact Nat.le_of_ble_eq_true rfl) rfl rfl rfl ?_
  refine g_aload_n (pc' := 21) C dX0_settleAt_20 rfl rfl ?_
  refine g_iconst (v := 0) (pc' := 22) C dX0_settleAt_21 (by decide) rfl ?_
  refine p_X0_32 (pc' := 25) C dX0_settleAt_22 (by first | assumption | exact rfl | exact al13 rfl | exact Nat.le_of_ble_eq_true rfl) rfl rfl rfl ?_
  exact g_vret C hR dX0_settleAt_25 ⟨rfl, rfl, rfl⟩
set_option maxRecDepth 20000 in
theorem m_X0_takesPartOf {l : Launch} {g : wG} {z : wZ} {I : wI} {P : wP} {O : wO} {h : Nat} {x y : Int32} (hh : wAl z 3 h) : RT l yX0_takesPartOf cX0_takesPartOf 3 ((some .boolean)) { frames := 0, cells := 0, slots := 0, locals := 0 } g z [.ref (g.2.2 3 h), .int x, .int y] I P O (dp (some (.int (b2 (tp I h x y)))) (I) (P)) := by
  refine RT.of (own := RX0) rfl (by decide +kernel) (Nat.le_of_ble_eq_true rfl) rfl (fun K C hl hg hR => ?_)
  subst hl
  subst hg
  refine g_aload_n (pc' := 1) C dX0_takesPartOf_0 rfl rfl ?_
  refine f_X0_15 (pc' := 4) C dX0_takesPartOf_1 (by first | assumption | exact rfl | exact al13 rfl | exact Nat.le_of_ble_eq_true rfl) rfl ?_
  refine g_if_ne (tgt := 34) (pc' := 7) C dX0_takesPartOf_4 (by decide) rfl (fun c1 => ?_) (fun c1 => ?_)
  ·
    refine g_iconst (v := 0) (pc' := 35) C dX0_takesPartOf_34 (by decide) rfl ?_
    exact g_zret C hR dX0_takesPartOf_35 rfl ⟨by simp [b2, tp, c1], rfl, rfl⟩
  ·
    refine g_aload_n (pc' := 8) C dX0_takesPartOf_7 rfl rfl ?_
    refine f_X0_25 (pc' := 11) C dX0_takesPartOf_8 (by first | assumption | exact rfl | exact al13 rfl | exact Nat.le_of_ble_eq_true rfl) rfl ?_
    refine g_iload_n (pc' := 12) C dX0_takesPartOf_11 rfl rfl ?_
    refine g_iload_n (pc' := 13) C dX0_takesPartOf_12 rfl rfl ?_
    refine g_iadd (pc' := 14) C dX0_takesPartOf_13 rfl ?_
    refine g_icmp_ge (tgt := 34) (pc' := 17) C dX0_takesPartOf_14 (by decide) rfl (fun c2 => ?_) (fun c2 => ?_)
    ·
      refine g_iconst (v := 0) (pc' := 35) C dX0_takesPartOf_34 (by decide) rfl ?_
      exact g_zret C hR dX0_takesPartOf_35 rfl ⟨by simp [b2, tp, c1, c2], rfl, rfl⟩
    ·
      refine g_iload_n (pc' := 18) C dX0_takesPartOf_17 rfl rfl ?_
      refine g_aload_n (pc' := 19) C dX0_takesPartOf_18 rfl rfl ?_
      refine f_X0_25 (pc' := 22) C dX0_takesPartOf_19 (by first | assumption | exact rfl | exact al13 rfl | exact Nat.le_of_ble_eq_true rfl) rfl ?_
      refine g_aload_n (pc' := 23) C dX0_takesPartOf_22 rfl rfl ?_
      refine f_X0_42 (pc' := 26) C dX0_takesPartOf_23 (by first | assumption | exact rfl | exact al13 rfl | exact Nat.le_of_ble_eq_true rfl) rfl ?_
      refine g_iadd (pc' := 27) C dX0_takesPartOf_26 rfl ?_
      refine g_icmp_ge (tgt := 34) (pc' := 30) C dX0_takesPartOf_27 (by decide) rfl (fun c3 => ?_) (fun c3 => ?_)
      ·
        refine g_iconst (v := 0) (pc' := 35) C dX0_takesPartOf_34 (by decide) rfl ?_
        exact g_zret C hR dX0_takesPartOf_35 rfl ⟨by simp [b2, tp, c1, c2, c3], rfl, rfl⟩
      ·
        refine g_iconst (v := 1) (pc' := 31) C dX0_takesPartOf_30 (by decide) rfl ?_
        refine g_goto (tgt := 35) C dX0_takesPartOf_31 (by decide) ?_
        exact g_zret C hR dX0_takesPartOf_35 rfl ⟨by simp [b2, tp, c1, c2, c3], rfl, rfl⟩
set_option maxRecDepth 20000 in
theorem m_X0_needs {l : Launch} {g : wG} {z : wZ} {I : wI} {P : wP} {O : wO} {m h : Nat} {x y : Int32} (hh : wAl z 3 h) (hm : P 3 h 1 = some m) (hm2 : wAl z 2 m) : RT l yX0_needs cX0_needs 3 ((some .boolean)) { frames := 1, cells := 0, slots := 0, locals := 21 } g z [.ref (g.2.2 3 h), .int x, .int y] I P O (dp (some (.int (b2 (nd I m h x y)))) (I) (P)) := by
  refine RT.of (own := RX0) rfl (by decide +kernel) (Nat.le_of_ble_eq_true rfl) rfl (fun K C hl hg hR => ?_)
  subst hl
  subst hg
  refine g_iload_n (pc' := 1) C dX0_needs_0 rfl rfl ?_
  rcases tsw2 x with hw | hw | hw | hw
  · refine g_tabIn (tgt := 28) C 0 (by rw [hw]; rfl) dX0_needs_1 (by decide) (by decide) rfl (by decide) ?_
    refine g_aload_n (pc' := 29) C dX0_needs_28 rfl rfl ?_
    refine f_X0_19 (pc' := 32) C dX0_needs_29 (by first | assumption | exact rfl | exact al13 rfl | exact Nat.le_of_ble_eq_true rfl) rfl ?_
    refine g_iload_n (pc' := 33) C dX0_needs_32 rfl rfl ?_
    refine g_icmp_ne (tgt := 40) (pc' := 36) C dX0_needs_33 (by decide) rfl (fun c1 => ?_) (fun c1 => ?_)
    ·
      refine g_iconst (v := 0) (pc' := 41) C dX0_needs_40 (by decide) rfl ?_
      exact g_zret C hR dX0_needs_41 rfl ⟨by simp [b2, nd, hw, c1], rfl, rfl⟩
    ·
      refine g_iconst (v := 1) (pc' := 37) C dX0_needs_36 (by decide) rfl ?_
      refine g_goto (tgt := 41) C dX0_needs_37 (by decide) ?_
      exact g_zret C hR dX0_needs_41 rfl ⟨by simp [b2, nd, hw, c1], rfl, rfl⟩
  · refine g_tabIn (tgt := 42) C 1 (by rw [hw]; rfl) dX0_needs_1 (by decide) (by decide) rfl (by decide) ?_
    refine g_aload_n (pc' := 43) C dX0_needs_42 rfl rfl ?_
    refine f_X0_38 (pc' := 46) C hm dX0_needs_43 (by first | assumption | exact rfl | exact al13 rfl | exact Nat.le_of_ble_eq_true rfl) rfl ?_
    refine f_X0_45 (pc' := 49) C dX0_needs_46 (by first | assumption | exact rfl | exact al13 rfl | exact Nat.le_of_ble_eq_true rfl) rfl ?_
    refine g_iload_n (pc' := 50) C dX0_needs_49 rfl rfl ?_
    refine g_icmp_ne (tgt := 57) (pc' := 53) C dX0_needs_50 (by decide) rfl (fun c2 => ?_) (fun c2 => ?_)
    ·
      refine g_iconst (v := 0) (pc' := 58) C dX0_needs_57 (by decide) rfl ?_
      exact g_zret C hR dX0_needs_58 rfl ⟨by simp [b2, nd, hw, c2], rfl, rfl⟩
    ·
      refine g_iconst (v := 1) (pc' := 54) C dX0_needs_53 (by decide) rfl ?_
      refine g_goto (tgt := 58) C dX0_needs_54 (by decide) ?_
      exact g_zret C hR dX0_needs_58 rfl ⟨by simp [b2, nd, hw, c2], rfl, rfl⟩
  · refine g_tabIn (tgt := 59) C 2 (by rw [hw]; rfl) dX0_needs_1 (by decide) (by decide) rfl (by decide) ?_
    refine g_aload_n (pc' := 60) C dX0_needs_59 rfl rfl ?_
    refine f_X0_38 (pc' := 63) C hm dX0_needs_60 (by first | assumption | exact rfl | exact al13 rfl | exact Nat.le_of_ble_eq_true rfl) rfl ?_
    refine g_iload_n (pc' := 64) C dX0_needs_63 rfl rfl ?_
    refine k_X0_50 (pc' := 67) C (m_X2_isOf hm2) dX0_needs_64 (by first | assumption | exact rfl | exact al13 rfl | exact Nat.le_of_ble_eq_true rfl) ⟨⟨Nat.le_of_ble_eq_true rfl, Nat.le_of_ble_eq_true rfl⟩, rfl, rfl⟩ (Nat.le_of_ble_eq_true rfl) ⟨Nat.zero_le _, Nat.zero_le _⟩ rfl ?_
    exact g_zret C hR dX0_needs_67 (b2_n _) ⟨by simp [nd, hw], rfl, rfl⟩
  · have h0 : ¬ x = 0 := fun e => by rw [e] at hw; exact absurd hw (by decide)
    have h1 : ¬ x = 1 := fun e => by rw [e] at hw; exact absurd hw (by decide)
    have h2 : ¬ x = 2 := fun e => by rw [e] at hw; exact absurd hw (by decide)
    refine g_tabOut (tgt := 68) C dX0_needs_1 hw (by decide) ?_
    refine g_aload_n (pc' := 69) C dX0_needs_68 rfl rfl ?_
    refine f_X0_22 (pc' := 72) C dX0_needs_69 (by first | assumption | exact rfl | exact al13 rfl | exact Nat.le_of_ble_eq_true rfl) rfl ?_
    refine g_iload_n (pc' := 73) C dX0_needs_72 rfl rfl ?_
    refine g_icmp_ne (tgt := 80) (pc' := 76) C dX0_needs_73 (by decide) rfl (fun c3 => ?_) (fun c3 => ?_)
    ·
      refine g_iconst (v := 0) (pc' := 81) C dX0_needs_80 (by decide) rfl ?_
      exact g_zret C hR dX0_needs_81 rfl ⟨by simp [b2, nd, h0, h1, h2, c3], rfl, rfl⟩
    ·
      refine g_iconst (v := 1) (pc' := 77) C dX0_needs_76 (by decide) rfl ?_
      refine g_goto (tgt := 81) C dX0_needs_77 (by decide) ?_
      exact g_zret C hR dX0_needs_81 rfl ⟨by simp [b2, nd, h0, h1, h2, c3], rfl, rfl⟩
set_option maxRecDepth 20000 in
theorem m_X0_reasonAgainst {l : Launch} {g : wG} {z : wZ} {I : wI} {P : wP} {O : wO} {m h m2 : Nat} {x y : Int32} (hh : wAl z 3 h) (hm : P 3 h 1 = some m) (hm2 : wAl z 2 m) (hm3 : wAl z 2 m2) : RT l yX0_reasonAgainst cX0_reasonAgainst 4 ((some .int)) { frames := 2, cells := 0, slots := 0, locals := 43 } g z [.ref (g.2.2 3 h), .ref (g.2.2 2 m2), .int x, .int y] I P O (dp (some (.int (ra I m h m2 x y))) (I) (P)) := by
  refine RT.of (own := RX0) rfl (by decide +kernel) (Nat.le_of_ble_eq_true rfl) rfl (fun K C hl hg hR => ?_)
  subst hl
  subst hg
  refine g_aload_n (pc' := 1) C dX0_reasonAgainst_0 rfl rfl ?_
  refine g_iconst (v := 0) (pc' := 2) C dX0_reasonAgainst_1 (by decide) rfl ?_
  refine g_iload_n (pc' := 3) C dX0_reasonAgainst_2 rfl rfl ?_
  refine k_X0_54 (pc' := 6) C (m_X0_needs hh hm hm2) dX0_reasonAgainst_3 (by first | assumption | exact rfl | exact al13 rfl | exact Nat.le_of_ble_eq_true rfl) ⟨⟨Nat.le_of_ble_eq_true rfl, Nat.le_of_ble_eq_true rfl⟩, rfl, rfl⟩ (Nat.le_of_ble_eq_true rfl) ⟨Nat.zero_le _, Nat.zero_le _⟩ rfl ?_
  refine g_if_eq (tgt := 11) (pc' := 9) C dX0_reasonAgainst_6 (by decide) rfl (fun c1 => ?_) (fun c1 => ?_)
  ·
    have c1 := b2_0.mp c1
    refine g_aload_n (pc' := 12) C dX0_reasonAgainst_11 rfl rfl ?_
    refine g_iconst (v := 1) (pc' := 13) C dX0_reasonAgainst_12 (by decide) rfl ?_
    refine g_aload_n (pc' := 14) C dX0_reasonAgainst_13 rfl rfl ?_
    refine f_X0_45 (pc' := 17) C dX0_reasonAgainst_14 (by first | assumption | exact rfl | exact al13 rfl | exact Nat.le_of_ble_eq_true rfl) rfl ?_
    refine k_X0_54 (pc' := 20) C (m_X0_needs hh hm hm2) dX0_reasonAgainst_17 (by first | assumption | exact rfl | exact al13 rfl | exact Nat.le_of_ble_eq_true rfl) ⟨⟨Nat.le_of_ble_eq_true rfl, Nat.le_of_ble_eq_true rfl⟩, rfl, rfl⟩ (Nat.le_of_ble_eq_true rfl) ⟨Nat.zero_le _, Nat.zero_le _⟩ rfl ?_
    refine g_if_eq (tgt := 25) (pc' := 23) C dX0_reasonAgainst_20 (by decide) rfl (fun c2 => ?_) (fun c2 => ?_)
    ·
      have c2 := b2_0.mp c2
      refine g_aload_n (pc' := 26) C dX0_reasonAgainst_25 rfl rfl ?_
      refine g_iconst (v := 2) (pc' := 27) C dX0_reasonAgainst_26 (by decide) rfl ?_
      refine g_aload_n (pc' := 28) C dX0_reasonAgainst_27 rfl rfl ?_
      refine f_X0_58 (pc' := 31) C dX0_reasonAgainst_28 (by first | assumption | exact rfl | exact al13 rfl | exact Nat.le_of_ble_eq_true rfl) rfl ?_
      refine k_X0_54 (pc' := 34) C (m_X0_needs hh hm hm2) dX0_reasonAgainst_31 (by first | assumption | exact rfl | exact al13 rfl | exact Nat.le_of_ble_eq_true rfl) ⟨⟨Nat.le_of_ble_eq_true rfl, Nat.le_of_ble_eq_true rfl⟩, rfl, rfl⟩ (Nat.le_of_ble_eq_true rfl) ⟨Nat.zero_le _, Nat.zero_le _⟩ rfl ?_
      refine g_if_ne (tgt := 49) (pc' := 37) C dX0_reasonAgainst_34 (by decide) rfl (fun c3 => ?_) (fun c3 => ?_)
      ·
        have c3 := b2_1.mp c3
        refine g_iconst (v := 3) (pc' := 50) C dX0_reasonAgainst_49 (by decide) rfl ?_
        exact g_iret C hR dX0_reasonAgainst_50 ⟨by simp [ra, c1, c2, c3], rfl, rfl⟩
      ·
        have c3 := b2_0.mp c3
        refine g_aload_n (pc' := 38) C dX0_reasonAgainst_37 rfl rfl ?_
        refine g_iconst (v := 2) (pc' := 39) C dX0_reasonAgainst_38 (by decide) rfl ?_
        refine g_aload_n (pc' := 40) C dX0_reasonAgainst_39 rfl rfl ?_
        refine f_X0_61 (pc' := 43) C dX0_reasonAgainst_40 (by first | assumption | exact rfl | exact al13 rfl | exact Nat.le_of_ble_eq_true rfl) rfl ?_
        refine k_X0_54 (pc' := 46) C (m_X0_needs hh hm hm2) dX0_reasonAgainst_43 (by first | assumption | exact rfl | exact al13 rfl | exact Nat.le_of_ble_eq_true rfl) ⟨⟨Nat.le_of_ble_eq_true rfl, Nat.le_of_ble_eq_true rfl⟩, rfl, rfl⟩ (Nat.le_of_ble_eq_true rfl) ⟨Nat.zero_le _, Nat.zero_le _⟩ rfl ?_
        refine g_if_eq (tgt := 51) (pc' := 49) C dX0_reasonAgainst_46 (by decide) rfl (fun c4 => ?_) (fun c4 => ?_)
        ·
          have c4 := b2_0.mp c4
          refine g_iload_n (pc' := 52) C dX0_reasonAgainst_51 rfl rfl ?_
          refine g_iconst (v := (-1)) (pc' := 53) C dX0_reasonAgainst_52 (by decide) rfl ?_
          refine g_icmp_eq (tgt := 69) (pc' := 56) C dX0_reasonAgainst_53 (by decide) rfl (fun c5 => ?_) (fun c5 => ?_)
          ·
            refine g_iconst (v := 0) (pc' := 70) C dX0_reasonAgainst_69 (by decide) rfl ?_
            exact g_iret C hR dX0_reasonAgainst_70 ⟨by simp [ra, c1, c2, c3, c4, c5], rfl, rfl⟩
          ·
            refine g_aload_n (pc' := 57) C dX0_reasonAgainst_56 rfl rfl ?_
            refine g_iconst (v := 3) (pc' := 58) C dX0_reasonAgainst_57 (by decide) rfl ?_
            refine g_iload_n (pc' := 59) C dX0_reasonAgainst_58 rfl rfl ?_
            refine k_X0_54 (pc' := 62) C (m_X0_needs hh hm hm2) dX0_reasonAgainst_59 (by first | assumption | exact rfl | exact al13 rfl | exact Nat.le_of_ble_eq_true rfl) ⟨⟨Nat.le_of_ble_eq_true rfl, Nat.le_of_ble_eq_true rfl⟩, rfl, rfl⟩ (Nat.le_of_ble_eq_true rfl) ⟨Nat.zero_le _, Nat.zero_le _⟩ rfl ?_
            refine g_if_eq (tgt := 69) (pc' := 65) C dX0_reasonAgainst_62 (by decide) rfl (fun c6 => ?_) (fun c6 => ?_)
            ·
              have c6 := b2_0.mp c6
              refine g_iconst (v := 0) (pc' := 70) C dX0_reasonAgainst_69 (by decide) rfl ?_
              exact g_iret C hR dX0_reasonAgainst_70 ⟨by simp [ra, c1, c2, c3, c4, c5, c6], rfl, rfl⟩
            ·
              have c6 := b2_1.mp c6
              refine g_iconst (v := 4) (pc' := 66) C dX0_reasonAgainst_65 (by decide) rfl ?_
              refine g_goto (tgt := 70) C dX0_reasonAgainst_66 (by decide) ?_
              exact g_iret C hR dX0_reasonAgainst_70 ⟨by simp [ra, c1, c2, c3, c4, c5, c6], rfl, rfl⟩
        ·
          have c4 := b2_1.mp c4
          refine g_iconst (v := 3) (pc' := 50) C dX0_reasonAgainst_49 (by decide) rfl ?_
          exact g_iret C hR dX0_reasonAgainst_50 ⟨by simp [ra, c1, c2, c3, c4], rfl, rfl⟩
    ·
      have c2 := b2_1.mp c2
      refine g_iconst (v := 2) (pc' := 24) C dX0_reasonAgainst_23 (by decide) rfl ?_
      exact g_iret C hR dX0_reasonAgainst_24 ⟨by simp [ra, c1, c2], rfl, rfl⟩
  ·
    have c1 := b2_1.mp c1
    refine g_iconst (v := 1) (pc' := 10) C dX0_reasonAgainst_9 (by decide) rfl ?_
    exact g_iret C hR dX0_reasonAgainst_10 ⟨by simp [ra, c1], rfl, rfl⟩
set_option maxRecDepth 20000 in
theorem m_X0_tell {l : Launch} {g : wG} {z : wZ} {I : wI} {P : wP} {O : wO} {m h : Nat} {x : Int32} (hh : wAl z 3 h) (hm : P 3 h 1 = some m) (hm2 : wAl z 2 m) : RT l yX0_tell cX0_tell 2 (none) { frames := 0, cells := 0, slots := 0, locals := 0 } g z [.ref (g.2.2 3 h), .int x] I P O (dp (none) (tl I m h x) (P)) := by
  refine RT.of (own := RX0) rfl (by decide +kernel) (Nat.le_of_ble_eq_true rfl) rfl (fun K C hl hg hR => ?_)
  subst hl
  subst hg
  refine g_iload_n (pc' := 1) C dX0_tell_0 rfl rfl ?_
  refine g_aload_n (pc' := 2) C dX0_tell_1 rfl rfl ?_
  refine f_X0_38 (pc' := 5) C hm dX0_tell_2 (by first | assumption | exact rfl | exact al13 rfl | exact Nat.le_of_ble_eq_true rfl) rfl ?_
  refine f_X0_58 (pc' := 8) C dX0_tell_5 (by first | assumption | exact rfl | exact al13 rfl | exact Nat.le_of_ble_eq_true rfl) rfl ?_
  refine g_icmp_ne (tgt := 16) (pc' := 11) C dX0_tell_8 (by decide) rfl (fun c1 => ?_) (fun c1 => ?_)
  ·
    refine g_iload_n (pc' := 17) C dX0_tell_16 rfl rfl ?_
    refine g_aload_n (pc' := 18) C dX0_tell_17 rfl rfl ?_
    refine f_X0_38 (pc' := 21) C hm dX0_tell_18 (by first | assumption | exact rfl | exact al13 rfl | exact Nat.le_of_ble_eq_true rfl) rfl ?_
    refine f_X0_61 (pc' := 24) C dX0_tell_21 (by first | assumption | exact rfl | exact al13 rfl | exact Nat.le_of_ble_eq_true rfl) rfl ?_
    refine g_icmp_ne (tgt := 32) (pc' := 27) C dX0_tell_24 (by decide) rfl (fun c2 => ?_) (fun c2 => ?_)
    ·
      exact g_vret C hR dX0_tell_32 ⟨rfl, by (try simp [upI_at] at c2); unfold tl tl1; (repeat' split) <;> first | rfl | contradiction | (exfalso; simp_all), rfl⟩
    ·
      refine g_aload_n (pc' := 28) C dX0_tell_27 rfl rfl ?_
      refine g_iconst (v := 1) (pc' := 29) C dX0_tell_28 (by decide) rfl ?_
      refine p_X0_32 (pc' := 32) C dX0_tell_29 (by first | assumption | exact rfl | exact al13 rfl | exact Nat.le_of_ble_eq_true rfl) rfl rfl rfl ?_
      exact g_vret C hR dX0_tell_32 ⟨rfl, by (try simp [upI_at] at c2); unfold tl tl1; (repeat' split) <;> first | rfl | contradiction | (exfalso; simp_all), rfl⟩
  ·
    refine g_aload_n (pc' := 12) C dX0_tell_11 rfl rfl ?_
    refine g_iconst (v := 1) (pc' := 13) C dX0_tell_12 (by decide) rfl ?_
    refine p_X0_28 (pc' := 16) C dX0_tell_13 (by first | assumption | exact rfl | exact al13 rfl | exact Nat.le_of_ble_eq_true rfl) rfl rfl rfl ?_
    refine g_iload_n (pc' := 17) C dX0_tell_16 rfl rfl ?_
    refine g_aload_n (pc' := 18) C dX0_tell_17 rfl rfl ?_
    refine f_X0_38 (pc' := 21) C hm dX0_tell_18 (by first | assumption | exact rfl | exact al13 rfl | exact Nat.le_of_ble_eq_true rfl) rfl ?_
    refine f_X0_61 (pc' := 24) C dX0_tell_21 (by first | assumption | exact rfl | exact al13 rfl | exact Nat.le_of_ble_eq_true rfl) rfl ?_
    refine g_icmp_ne (tgt := 32) (pc' := 27) C dX0_tell_24 (by decide) rfl (fun c3 => ?_) (fun c3 => ?_)
    ·
      exact g_vret C hR dX0_tell_32 ⟨rfl, by (try simp [upI_at] at c3); unfold tl tl1; (repeat' split) <;> first | rfl | contradiction | (exfalso; simp_all), rfl⟩
    ·
      refine g_aload_n (pc' := 28) C dX0_tell_27 rfl rfl ?_
      refine g_iconst (v := 1) (pc' := 29) C dX0_tell_28 (by decide) rfl ?_
      refine p_X0_32 (pc' := 32) C dX0_tell_29 (by first | assumption | exact rfl | exact al13 rfl | exact Nat.le_of_ble_eq_true rfl) rfl rfl rfl ?_
      exact g_vret C hR dX0_tell_32 ⟨rfl, by (try simp [upI_at] at c3); unfold tl tl1; (repeat' split) <;> first | rfl | contradiction | (exfalso; simp_all), rfl⟩
set_option maxRecDepth 20000 in
theorem m_X0_notices {l : Launch} {g : wG} {z : wZ} {I : wI} {P : wP} {O : wO} {h : Nat} (hh : wAl z 3 h) : RT l yX0_notices cX0_notices 1 ((some .int)) { frames := 0, cells := 0, slots := 0, locals := 0 } g z [.ref (g.2.2 3 h)] I P O (dp (some (.int (ntc I h))) (I) (P)) := by
  refine RT.of (own := RX0) rfl (by decide +kernel) (Nat.le_of_ble_eq_true rfl) rfl (fun K C hl hg hR => ?_)
  subst hl
  subst hg
  refine g_aload_n (pc' := 1) C dX0_notices_0 rfl rfl ?_
  refine f_X0_28 (pc' := 4) C dX0_notices_1 (by first | assumption | exact rfl | exact al13 rfl | exact Nat.le_of_ble_eq_true rfl) rfl ?_
  refine g_if_eq (tgt := 11) (pc' := 7) C dX0_notices_4 (by decide) rfl (fun c1 => ?_) (fun c1 => ?_)
  ·
    refine g_iconst (v := 0) (pc' := 12) C dX0_notices_11 (by decide) rfl ?_
    refine g_aload_n (pc' := 13) C dX0_notices_12 rfl rfl ?_
    refine f_X0_32 (pc' := 16) C dX0_notices_13 (by first | assumption | exact rfl | exact al13 rfl | exact Nat.le_of_ble_eq_true rfl) rfl ?_
    refine g_if_eq (tgt := 23) (pc' := 19) C dX0_notices_16 (by decide) rfl (fun c2 => ?_) (fun c2 => ?_)
    ·
      refine g_iconst (v := 0) (pc' := 24) C dX0_notices_23 (by decide) rfl ?_
      refine g_iadd (pc' := 25) C dX0_notices_24 rfl ?_
      exact g_iret C hR dX0_notices_25 ⟨by simp [ntc, c1, c2], rfl, rfl⟩
    ·
      refine g_iconst (v := 1) (pc' := 20) C dX0_notices_19 (by decide) rfl ?_
      refine g_goto (tgt := 24) C dX0_notices_20 (by decide) ?_
      refine g_iadd (pc' := 25) C dX0_notices_24 rfl ?_
      exact g_iret C hR dX0_notices_25 ⟨by simp [ntc, c1, c2], rfl, rfl⟩
  ·
    refine g_iconst (v := 1) (pc' := 8) C dX0_notices_7 (by decide) rfl ?_
    refine g_goto (tgt := 12) C dX0_notices_8 (by decide) ?_
    refine g_aload_n (pc' := 13) C dX0_notices_12 rfl rfl ?_
    refine f_X0_32 (pc' := 16) C dX0_notices_13 (by first | assumption | exact rfl | exact al13 rfl | exact Nat.le_of_ble_eq_true rfl) rfl ?_
    refine g_if_eq (tgt := 23) (pc' := 19) C dX0_notices_16 (by decide) rfl (fun c3 => ?_) (fun c3 => ?_)
    ·
      refine g_iconst (v := 0) (pc' := 24) C dX0_notices_23 (by decide) rfl ?_
      refine g_iadd (pc' := 25) C dX0_notices_24 rfl ?_
      exact g_iret C hR dX0_notices_25 ⟨by simp [ntc, c1, c3], rfl, rfl⟩
    ·
      refine g_iconst (v := 1) (pc' := 20) C dX0_notices_19 (by decide) rfl ?_
      refine g_goto (tgt := 24) C dX0_notices_20 (by decide) ?_
      refine g_iadd (pc' := 25) C dX0_notices_24 rfl ?_
      exact g_iret C hR dX0_notices_25 ⟨by simp [ntc, c1, c3], rfl, rfl⟩
set_option maxRecDepth 20000 in
theorem m_X0_charged {l : Launch} {g : wG} {z : wZ} {I : wI} {P : wP} {O : wO} {h : Nat} (hh : wAl z 3 h) : RT l yX0_charged cX0_charged 3 ((some .int)) { frames := 0, cells := 0, slots := 0, locals := 0 } g z [.ref (g.2.2 3 h)] I P O (dp (some (.int (chg I h))) (I) (P)) := by
  refine RT.of (own := RX0) rfl (by decide +kernel) (Nat.le_of_ble_eq_true rfl) rfl (fun K C hl hg hR => ?_)
  subst hl
  subst hg
  refine g_iconst (v := 0) (pc' := 1) C dX0_charged_0 (by decide) rfl ?_
  refine g_istore_n (pc' := 2) C dX0_charged_1 rfl rfl ?_
  refine g_iconst (v := 0) (pc' := 3) C dX0_charged_2 (by decide) rfl ?_
  refine g_istore_n (pc' := 4) C dX0_charged_3 rfl rfl ?_
  refine g_iload_n (pc' := 5) C dX0_charged_4 rfl rfl ?_
  refine g_aload_n (pc' := 6) C dX0_charged_5 rfl rfl ?_
  refine f_X0_9 (pc' := 9) C dX0_charged_6 (by first | assumption | exact rfl | exact al13 rfl | exact Nat.le_of_ble_eq_true rfl) rfl ?_
  refine g_alen (pc' := 10) (v := 4) (t0 := 0) C dX0_charged_9 (by first | assumption | exact rfl | exact al13 rfl | exact Nat.le_of_ble_eq_true rfl) rfl rfl rfl rfl ?_
  refine g_icmp_ge (tgt := 28) (pc' := 13) C dX0_charged_10 (by decide) rfl (fun c1 => absurd c1 (by decide)) (fun c1 => ?_)
  refine g_iload_n (pc' := 14) C dX0_charged_13 rfl rfl ?_
  refine g_aload_n (pc' := 15) C dX0_charged_14 rfl rfl ?_
  refine f_X0_9 (pc' := 18) C dX0_charged_15 (by first | assumption | exact rfl | exact al13 rfl | exact Nat.le_of_ble_eq_true rfl) rfl ?_
  refine g_iload_n (pc' := 19) C dX0_charged_18 rfl rfl ?_
  refine g_iald (pc' := 20) C (0) (by decide) (by decide) dX0_charged_19 (by first | assumption | exact rfl | exact al13 rfl | exact Nat.le_of_ble_eq_true rfl) rfl rfl rfl ?_
  refine g_iadd (pc' := 21) C dX0_charged_20 rfl ?_
  refine g_istore_n (pc' := 22) C dX0_charged_21 rfl rfl ?_
  refine g_iinc (v := 1) (pc' := 25) C dX0_charged_22 rfl (by decide) rfl rfl ?_
  refine g_goto (tgt := 4) C dX0_charged_25 (by decide) ?_
  refine g_iload_n (pc' := 5) C dX0_charged_4 rfl rfl ?_
  refine g_aload_n (pc' := 6) C dX0_charged_5 rfl rfl ?_
  refine f_X0_9 (pc' := 9) C dX0_charged_6 (by first | assumption | exact rfl | exact al13 rfl | exact Nat.le_of_ble_eq_true rfl) rfl ?_
  refine g_alen (pc' := 10) (v := 4) (t0 := 0) C dX0_charged_9 (by first | assumption | exact rfl | exact al13 rfl | exact Nat.le_of_ble_eq_true rfl) rfl rfl rfl rfl ?_
  refine g_icmp_ge (tgt := 28) (pc' := 13) C dX0_charged_10 (by decide) rfl (fun c2 => absurd c2 (by decide)) (fun c2 => ?_)
  refine g_iload_n (pc' := 14) C dX0_charged_13 rfl rfl ?_
  refine g_aload_n (pc' := 15) C dX0_charged_14 rfl rfl ?_
  refine f_X0_9 (pc' := 18) C dX0_charged_15 (by first | assumption | exact rfl | exact al13 rfl | exact Nat.le_of_ble_eq_true rfl) rfl ?_
  refine g_iload_n (pc' := 19) C dX0_charged_18 rfl rfl ?_
  refine g_iald (pc' := 20) C (1) (by decide) (by decide) dX0_charged_19 (by first | assumption | exact rfl | exact al13 rfl | exact Nat.le_of_ble_eq_true rfl) rfl rfl rfl ?_
  refine g_iadd (pc' := 21) C dX0_charged_20 rfl ?_
  refine g_istore_n (pc' := 22) C dX0_charged_21 rfl rfl ?_
  refine g_iinc (v := 2) (pc' := 25) C dX0_charged_22 rfl (by decide) rfl rfl ?_
  refine g_goto (tgt := 4) C dX0_charged_25 (by decide) ?_
  refine g_iload_n (pc' := 5) C dX0_charged_4 rfl rfl ?_
  refine g_aload_n (pc' := 6) C dX0_charged_5 rfl rfl ?_
  refine f_X0_9 (pc' := 9) C dX0_charged_6 (by first | assumption | exact rfl | exact al13 rfl | exact Nat.le_of_ble_eq_true rfl) rfl ?_
  refine g_alen (pc' := 10) (v := 4) (t0 := 0) C dX0_charged_9 (by first | assumption | exact rfl | exact al13 rfl | exact Nat.le_of_ble_eq_true rfl) rfl rfl rfl rfl ?_
  refine g_icmp_ge (tgt := 28) (pc' := 13) C dX0_charged_10 (by decide) rfl (fun c3 => absurd c3 (by decide)) (fun c3 => ?_)
  refine g_iload_n (pc' := 14) C dX0_charged_13 rfl rfl ?_
  refine g_aload_n (pc' := 15) C dX0_charged_14 rfl rfl ?_
  refine f_X0_9 (pc' := 18) C dX0_charged_15 (by first | assumption | exact rfl | exact al13 rfl | exact Nat.le_of_ble_eq_true rfl) rfl ?_
  refine g_iload_n (pc' := 19) C dX0_charged_18 rfl rfl ?_
  refine g_iald (pc' := 20) C (2) (by decide) (by decide) dX0_charged_19 (by first | assumption | exact rfl | exact al13 rfl | exact Nat.le_of_ble_eq_true rfl) rfl rfl rfl ?_
  refine g_iadd (pc' := 21) C dX0_charged_20 rfl ?_
  refine g_istore_n (pc' := 22) C dX0_charged_21 rfl rfl ?_
  refine g_iinc (v := 3) (pc' := 25) C dX0_charged_22 rfl (by decide) rfl rfl ?_
  refine g_goto (tgt := 4) C dX0_charged_25 (by decide) ?_
  refine g_iload_n (pc' := 5) C dX0_charged_4 rfl rfl ?_
  refine g_aload_n (pc' := 6) C dX0_charged_5 rfl rfl ?_
  refine f_X0_9 (pc' := 9) C dX0_charged_6 (by first | assumption | exact rfl | exact al13 rfl | exact Nat.le_of_ble_eq_true rfl) rfl ?_
  refine g_alen (pc' := 10) (v := 4) (t0 := 0) C dX0_charged_9 (by first | assumption | exact rfl | exact al13 rfl | exact Nat.le_of_ble_eq_true rfl) rfl rfl rfl rfl ?_
  refine g_icmp_ge (tgt := 28) (pc' := 13) C dX0_charged_10 (by decide) rfl (fun c4 => absurd c4 (by decide)) (fun c4 => ?_)
  refine g_iload_n (pc' := 14) C dX0_charged_13 rfl rfl ?_
  refine g_aload_n (pc' := 15) C dX0_charged_14 rfl rfl ?_
  refine f_X0_9 (pc' := 18) C dX0_charged_15 (by first | assumption | exact rfl | exact al13 rfl | exact Nat.le_of_ble_eq_true rfl) rfl ?_
  refine g_iload_n (pc' := 19) C dX0_charged_18 rfl rfl ?_
  refine g_iald (pc' := 20) C (3) (by decide) (by decide) dX0_charged_19 (by first | assumption | exact rfl | exact al13 rfl | exact Nat.le_of_ble_eq_true rfl) rfl rfl rfl ?_
  refine g_iadd (pc' := 21) C dX0_charged_20 rfl ?_
  refine g_istore_n (pc' := 22) C dX0_charged_21 rfl rfl ?_
  refine g_iinc (v := 4) (pc' := 25) C dX0_charged_22 rfl (by decide) rfl rfl ?_
  refine g_goto (tgt := 4) C dX0_charged_25 (by decide) ?_
  refine g_iload_n (pc' := 5) C dX0_charged_4 rfl rfl ?_
  refine g_aload_n (pc' := 6) C dX0_charged_5 rfl rfl ?_
  refine f_X0_9 (pc' := 9) C dX0_charged_6 (by first | assumption | exact rfl | exact al13 rfl | exact Nat.le_of_ble_eq_true rfl) rfl ?_
  refine g_alen (pc' := 10) (v := 4) (t0 := 0) C dX0_charged_9 (by first | assumption | exact rfl | exact al13 rfl | exact Nat.le_of_ble_eq_true rfl) rfl rfl rfl rfl ?_
  refine g_icmp_ge (tgt := 28) (pc' := 13) C dX0_charged_10 (by decide) rfl (fun c5 => ?_) (fun c5 => absurd (by decide) c5)
  refine g_iload_n (pc' := 29) C dX0_charged_28 rfl rfl ?_
  exact g_iret C hR dX0_charged_29 ⟨rfl, rfl, rfl⟩
set_option maxRecDepth 20000 in
theorem m_X0_end {l : Launch} {g : wG} {z : wZ} {I : wI} {P : wP} {O : wO} {m h : Nat} (hh : wAl z 3 h) (hm : P 3 h 1 = some m) (hm2 : wAl z 2 m) : RT l yX0_end cX0_end 1 (none) { frames := 1, cells := 0, slots := 0, locals := 20 } g z [.ref (g.2.2 3 h)] I P O (dp (none) (hE I m h) (P)) := by
  refine RT.of (own := RX0) rfl (by decide +kernel) (Nat.le_of_ble_eq_true rfl) rfl (fun K C hl hg hR => ?_)
  subst hl
  subst hg
  refine g_aload_n (pc' := 1) C dX0_end_0 rfl rfl ?_
  refine f_X0_38 (pc' := 4) C hm dX0_end_1 (by first | assumption | exact rfl | exact al13 rfl | exact Nat.le_of_ble_eq_true rfl) rfl ?_
  refine k_X0_64 (pc' := 7) C (m_X2_isOpen hm2) dX0_end_4 (by first | assumption | exact rfl | exact al13 rfl | exact Nat.le_of_ble_eq_true rfl) ⟨⟨Nat.le_of_ble_eq_true rfl, Nat.le_of_ble_eq_true rfl⟩, rfl, rfl⟩ (Nat.le_of_ble_eq_true rfl) ⟨Nat.zero_le _, Nat.zero_le _⟩ rfl ?_
  refine g_if_eq (tgt := 40) (pc' := 10) C dX0_end_7 (by decide) rfl (fun c1 => ?_) (fun c1 => ?_)
  ·
    have c1 := b2_0.mp c1
    refine g_aload_n (pc' := 41) C dX0_end_40 rfl rfl ?_
    refine g_iconst (v := 2) (pc' := 42) C dX0_end_41 (by decide) rfl ?_
    refine p_X0_15 (pc' := 45) C dX0_end_42 (by first | assumption | exact rfl | exact al13 rfl | exact Nat.le_of_ble_eq_true rfl) rfl ?_
    exact g_vret C hR dX0_end_45 ⟨rfl, by simp [hE, c1], rfl⟩
  ·
    have c1 := b2_1.mp c1
    refine g_aload_n (pc' := 11) C dX0_end_10 rfl rfl ?_
    refine f_X0_28 (pc' := 14) C dX0_end_11 (by first | assumption | exact rfl | exact al13 rfl | exact Nat.le_of_ble_eq_true rfl) rfl ?_
    refine g_if_eq (tgt := 40) (pc' := 17) C dX0_end_14 (by decide) rfl (fun c2 => ?_) (fun c2 => ?_)
    ·
      refine g_aload_n (pc' := 41) C dX0_end_40 rfl rfl ?_
      refine g_iconst (v := 2) (pc' := 42) C dX0_end_41 (by decide) rfl ?_
      refine p_X0_15 (pc' := 45) C dX0_end_42 (by first | assumption | exact rfl | exact al13 rfl | exact Nat.le_of_ble_eq_true rfl) rfl ?_
      exact g_vret C hR dX0_end_45 ⟨rfl, by simp [hE, c1, c2], rfl⟩
    ·
      refine g_aload_n (pc' := 18) C dX0_end_17 rfl rfl ?_
      refine f_X0_32 (pc' := 21) C dX0_end_18 (by first | assumption | exact rfl | exact al13 rfl | exact Nat.le_of_ble_eq_true rfl) rfl ?_
      refine g_if_eq (tgt := 40) (pc' := 24) C dX0_end_21 (by decide) rfl (fun c3 => ?_) (fun c3 => ?_)
      ·
        refine g_aload_n (pc' := 41) C dX0_end_40 rfl rfl ?_
        refine g_iconst (v := 2) (pc' := 42) C dX0_end_41 (by decide) rfl ?_
        refine p_X0_15 (pc' := 45) C dX0_end_42 (by first | assumption | exact rfl | exact al13 rfl | exact Nat.le_of_ble_eq_true rfl) rfl ?_
        exact g_vret C hR dX0_end_45 ⟨rfl, by simp [hE, c1, c2, c3], rfl⟩
      ·
        refine g_aload_n (pc' := 25) C dX0_end_24 rfl rfl ?_
        refine g_iconst (v := 1) (pc' := 26) C dX0_end_25 (by decide) rfl ?_
        refine p_X0_15 (pc' := 29) C dX0_end_26 (by first | assumption | exact rfl | exact al13 rfl | exact Nat.le_of_ble_eq_true rfl) rfl ?_
        refine g_aload_n (pc' := 30) C dX0_end_29 rfl rfl ?_
        refine f_X0_38 (pc' := 33) C hm dX0_end_30 (by first | assumption | exact rfl | exact al13 rfl | exact Nat.le_of_ble_eq_true rfl) rfl ?_
        refine g_iconst (v := 1) (pc' := 34) C dX0_end_33 (by decide) rfl ?_
        refine p_X0_68 (pc' := 37) C dX0_end_34 (by first | assumption | exact rfl | exact al13 rfl | exact Nat.le_of_ble_eq_true rfl) rfl ?_
        refine g_goto (tgt := 45) C dX0_end_37 (by decide) ?_
        exact g_vret C hR dX0_end_45 ⟨rfl, by simp [hE, c1, c2, c3], rfl⟩
set_option maxRecDepth 20000 in
theorem m_X1_placeOf {l : Launch} {g : wG} {z : wZ} {I : wI} {P : wP} {O : wO} {x : Int32} : RT l yX1_placeOf cX1_placeOf 1 ((some .int)) { frames := 0, cells := 0, slots := 0, locals := 0 } g z [.int x] I P O (dp (some (.int (x &&& 15))) (I) (P)) := by
  refine RT.of (own := RX1) rfl (by decide +kernel) (Nat.le_of_ble_eq_true rfl) rfl (fun K C hl hg hR => ?_)
  subst hl
  subst hg
  refine g_iload_n (pc' := 1) C dX1_placeOf_0 rfl rfl ?_
  refine g_bipush (v := 15) (pc' := 3) C dX1_placeOf_1 (by decide) rfl ?_
  refine g_iand (pc' := 4) C dX1_placeOf_3 rfl ?_
  exact g_iret C hR dX1_placeOf_4 ⟨rfl, rfl, rfl⟩
set_option maxRecDepth 20000 in
theorem m_X1_knows {l : Launch} {g : wG} {z : wZ} {I : wI} {P : wP} {O : wO} {i : Nat} {x : Int32} (hi : wAl z 1 i) : RT l yX1_knows cX1_knows 2 ((some .boolean)) { frames := 0, cells := 0, slots := 0, locals := 0 } g z [.ref (g.2.2 1 i), .int x] I P O (dp (some (.int (b2 (kn I i x)))) (I) (P)) := by
  refine RT.of (own := RX1) rfl (by decide +kernel) (Nat.le_of_ble_eq_true rfl) rfl (fun K C hl hg hR => ?_)
  subst hl
  subst hg
  refine g_aload_n (pc' := 1) C dX1_knows_0 rfl rfl ?_
  refine f_X1_9 (pc' := 4) C dX1_knows_1 (by first | assumption | exact rfl | exact al13 rfl | exact Nat.le_of_ble_eq_true rfl) rfl ?_
  refine g_iload_n (pc' := 5) C dX1_knows_4 rfl rfl ?_
  refine g_ishr (pc' := 6) C dX1_knows_5 rfl ?_
  refine g_iconst (v := 1) (pc' := 7) C dX1_knows_6 (by decide) rfl ?_
  refine g_iand (pc' := 8) C dX1_knows_7 rfl ?_
  refine g_iconst (v := 1) (pc' := 9) C dX1_knows_8 (by decide) rfl ?_
  refine g_icmp_ne (tgt := 16) (pc' := 12) C dX1_knows_9 (by decide) rfl (fun c1 => ?_) (fun c1 => ?_)
  ·
    refine g_iconst (v := 0) (pc' := 17) C dX1_knows_16 (by decide) rfl ?_
    exact g_zret C hR dX1_knows_17 rfl ⟨by simp [b2, kn, c1], rfl, rfl⟩
  ·
    refine g_iconst (v := 1) (pc' := 13) C dX1_knows_12 (by decide) rfl ?_
    refine g_goto (tgt := 17) C dX1_knows_13 (by decide) ?_
    exact g_zret C hR dX1_knows_17 rfl ⟨by simp [b2, kn, c1], rfl, rfl⟩
set_option maxRecDepth 20000 in
theorem m_X1_payer {l : Launch} {g : wG} {z : wZ} {I : wI} {P : wP} {O : wO} {i : Nat} {x y : Int32} (hi : wAl z 1 i) : RT l yX1_payer cX1_payer 4 ((some (.object "Hearingpay$Matter"))) { frames := 1, cells := 0, slots := 0, locals := 20 } g z [.ref (g.2.2 1 i), .int x, .int y] I P O (dp (some (va_rf ((py I P i x y).map (g.2.2 2)))) (I) (P)) := by
  refine RT.of (own := RX1) rfl (by decide +kernel) (Nat.le_of_ble_eq_true rfl) rfl (fun K C hl hg hR => ?_)
  subst hl
  subst hg
  refine g_iload_n (pc' := 1) C dX1_payer_0 rfl rfl ?_
  refine k_X1_31 (pc' := 4) C (m_X1_placeOf) dX1_payer_1 ⟨⟨Nat.le_of_ble_eq_true rfl, Nat.le_of_ble_eq_true rfl⟩, rfl, rfl⟩ (Nat.le_of_ble_eq_true rfl) ⟨Nat.zero_le _, Nat.zero_le _⟩ rfl ?_
  refine g_istore_n (pc' := 5) C dX1_payer_4 rfl rfl ?_
  refine g_iload_n (pc' := 6) C dX1_payer_5 rfl rfl ?_
  refine g_iload_n (pc' := 7) C dX1_payer_6 rfl rfl ?_
  refine g_icmp_le (tgt := 29) (pc' := 10) C dX1_payer_7 (by decide) rfl (fun c1 => ?_) (fun c1 => ?_)
  ·
    refine g_null (pc' := 30) C dX1_payer_29 rfl ?_
    exact g_aret C hR dX1_payer_30 (Or.inl rfl) ⟨by simp [py, va_rf, c1], rfl, rfl⟩
  ·
    refine g_aload_n (pc' := 11) C dX1_payer_10 rfl rfl ?_
    refine f_X1_18 (pc' := 14) C dX1_payer_11 (by first | assumption | exact rfl | exact al13 rfl | exact Nat.le_of_ble_eq_true rfl) rfl ?_
    refine g_iload_n (pc' := 15) C dX1_payer_14 rfl rfl ?_
    refine g_iald (pc' := 16) C (rg x) (rg_eq x) (rg_lt x) dX1_payer_15 (by first | assumption | exact rfl | exact al13 rfl | exact Nat.le_of_ble_eq_true rfl) rfl rfl rfl ?_
    refine g_iload_n (pc' := 17) C dX1_payer_16 rfl rfl ?_
    refine g_icmp_ne (tgt := 29) (pc' := 20) C dX1_payer_17 (by decide) rfl (fun c2 => ?_) (fun c2 => ?_)
    ·
      refine g_null (pc' := 30) C dX1_payer_29 rfl ?_
      exact g_aret C hR dX1_payer_30 (Or.inl rfl) ⟨by simp [py, va_rf, c1, c2], rfl, rfl⟩
    ·
      refine g_aload_n (pc' := 21) C dX1_payer_20 rfl rfl ?_
      refine f_X1_24 (pc' := 24) C dX1_payer_21 (by first | assumption | exact rfl | exact al13 rfl | exact Nat.le_of_ble_eq_true rfl) rfl ?_
      refine g_iload_n (pc' := 25) C dX1_payer_24 rfl rfl ?_
      refine g_aald (pc' := 26) (t0 := 2) C (rg x) (rg_eq x) (rg_lt x) rfl dX1_payer_25 (by first | assumption | exact rfl | exact al13 rfl | exact Nat.le_of_ble_eq_true rfl) rfl rfl rfl rfl ?_
      refine g_goto (tgt := 30) C dX1_payer_26 (by decide) ?_
      exact g_aret C hR dX1_payer_30 (va_rf_or _) ⟨by simp [py, va_rf, c1, c2], rfl, rfl⟩
set_option maxRecDepth 20000 in
theorem m_X1_keep {l : Launch} {g : wG} {z : wZ} {I : wI} {P : wP} {O : wO} {i m : Nat} {x y : Int32} (hi : wAl z 1 i) (hm2 : wAl z 2 m) : RT l yX1_keep cX1_keep 5 (none) { frames := 1, cells := 0, slots := 0, locals := 20 } g z [.ref (g.2.2 1 i), .int x, .ref (g.2.2 2 m), .int y] I P O (dp (none) (kpI I i x y) (kpP P i m x)) := by
  refine RT.of (own := RX1) rfl (by decide +kernel) (Nat.le_of_ble_eq_true rfl) rfl (fun K C hl hg hR => ?_)
  subst hl
  subst hg
  refine g_iload_n (pc' := 1) C dX1_keep_0 rfl rfl ?_
  refine k_X1_31 (pc' := 4) C (m_X1_placeOf) dX1_keep_1 ⟨⟨Nat.le_of_ble_eq_true rfl, Nat.le_of_ble_eq_true rfl⟩, rfl, rfl⟩ (Nat.le_of_ble_eq_true rfl) ⟨Nat.zero_le _, Nat.zero_le _⟩ rfl ?_
  refine g_istore (pc' := 6) C dX1_keep_4 rfl rfl ?_
  refine g_aload_n (pc' := 7) C dX1_keep_6 rfl rfl ?_
  refine f_X1_18 (pc' := 10) C dX1_keep_7 (by first | assumption | exact rfl | exact al13 rfl | exact Nat.le_of_ble_eq_true rfl) rfl ?_
  refine g_iload (pc' := 12) C dX1_keep_10 rfl rfl ?_
  refine g_iload_n (pc' := 13) C dX1_keep_12 rfl rfl ?_
  refine g_iast (pc' := 14) C (rg x) (rg_eq x) (rg_lt x) dX1_keep_13 (by first | assumption | exact rfl | exact al13 rfl | exact Nat.le_of_ble_eq_true rfl) (fun _ => rfl) rfl rfl ?_
  refine g_aload_n (pc' := 15) C dX1_keep_14 rfl rfl ?_
  refine f_X1_24 (pc' := 18) C dX1_keep_15 (by first | assumption | exact rfl | exact al13 rfl | exact Nat.le_of_ble_eq_true rfl) rfl ?_
  refine g_iload (pc' := 20) C dX1_keep_18 rfl rfl ?_
  refine g_aload_n (pc' := 21) C dX1_keep_20 rfl rfl ?_
  refine g_aast (pc' := 22) (t0 := 2) C (rg x) (rg_eq x) (rg_lt x) dX1_keep_21 (by first | assumption | exact rfl | exact al13 rfl | exact Nat.le_of_ble_eq_true rfl) (by first | assumption | exact rfl | exact al13 rfl | exact Nat.le_of_ble_eq_true rfl) (fun _ => rfl) rfl rfl rfl rfl rfl ?_
  refine g_aload_n (pc' := 23) C dX1_keep_22 rfl rfl ?_
  refine f_X1_28 (pc' := 26) C dX1_keep_23 (by first | assumption | exact rfl | exact al13 rfl | exact Nat.le_of_ble_eq_true rfl) rfl ?_
  refine g_iload (pc' := 28) C dX1_keep_26 rfl rfl ?_
  refine g_iload_n (pc' := 29) C dX1_keep_28 rfl rfl ?_
  refine g_iast (pc' := 30) C (rg x) (rg_eq x) (rg_lt x) dX1_keep_29 (by first | assumption | exact rfl | exact al13 rfl | exact Nat.le_of_ble_eq_true rfl) (fun _ => rfl) rfl rfl ?_
  exact g_vret C hR dX1_keep_30 ⟨rfl, rfl, rfl⟩
set_option maxRecDepth 20000 in
theorem m_X1_take {l : Launch} {g : wG} {z : wZ} {I : wI} {P : wP} {O : wO} {i m : Nat} {x y : Int32} (hi : wAl z 1 i) (hm2 : wAl z 2 m) (hP9 : ∀ q, P 9 i (rg x) = some q → wAl z 2 q) : RT l yX1_take cX1_take 7 ((some .int)) { frames := 2, cells := 0, slots := 0, locals := 43 } g z [.ref (g.2.2 1 i), .int x, .int y, .ref (g.2.2 2 m)] I P O (dp (some (.int (tkR I P i m x y))) (tkI I P i m x y) (tkP I P i x y)) := by
  refine RT.of (own := RX1) rfl (by decide +kernel) (Nat.le_of_ble_eq_true rfl) rfl (fun K C hl hg hR => ?_)
  subst hl
  subst hg
  have hM : RT (Kl K) yX1_payer cX1_payer 4 (some (.object "Hearingpay$Matter")) { frames := 1, cells := 0, slots := 0, locals := 20 } (Kg K) z [.ref ((Kg K).2.2 1 i), .int x, .int y] I P O (dp (some (va_rf ((py I P i x y).map ((Kg K).2.2 2)))) I P) := m_X1_payer hi
  refine g_aload_n (pc' := 1) C dX1_take_0 rfl rfl ?_
  refine g_iload_n (pc' := 2) C dX1_take_1 rfl rfl ?_
  refine g_iload_n (pc' := 3) C dX1_take_2 rfl rfl ?_
  rcases hpy : py I P i x y with _ | q
  · rw [hpy] at hM
    refine k_X1_35 (pc' := 6) C hM dX1_take_3 (by first | assumption | exact rfl | exact al13 rfl | exact Nat.le_of_ble_eq_true rfl) ⟨⟨Nat.le_of_ble_eq_true rfl, Nat.le_of_ble_eq_true rfl⟩, rfl, rfl⟩ (Nat.le_of_ble_eq_true rfl) ⟨Nat.zero_le _, Nat.zero_le _⟩ rfl ?_
    refine g_astoreN (pc' := 8) C dX1_take_6 rfl rfl ?_
    refine g_aloadN (pc' := 10) C dX1_take_8 rfl rfl ?_
    refine g_ifnonnullN (pc' := 13) C dX1_take_10 rfl ?_
    refine g_aload_n (pc' := 14) C dX1_take_13 rfl rfl ?_
    refine f_X1_15 (pc' := 17) C dX1_take_14 (by first | assumption | exact rfl | exact al13 rfl | exact Nat.le_of_ble_eq_true rfl) rfl ?_
    exact g_iret C hR dX1_take_17 ⟨by simp [tkR, hpy], by simp [tkI, hpy], by simp [tkP, hpy]⟩
  · rw [hpy] at hM
    have hq2 : wAl z 2 q := hP9 q (by unfold py at hpy; split at hpy; exact hpy; cases hpy)
    refine k_X1_35 (pc' := 6) C hM dX1_take_3 (by first | assumption | exact rfl | exact al13 rfl | exact Nat.le_of_ble_eq_true rfl) ⟨⟨Nat.le_of_ble_eq_true rfl, Nat.le_of_ble_eq_true rfl⟩, rfl, rfl⟩ (Nat.le_of_ble_eq_true rfl) ⟨Nat.zero_le _, Nat.zero_le _⟩ rfl ?_
    refine g_astore (pc' := 8) C dX1_take_6 rfl rfl ?_
    refine g_aload (pc' := 10) C dX1_take_8 rfl rfl ?_
    refine g_ifnonnull (tgt := 18) C dX1_take_10 (by decide) ?_
    refine g_iload_n (pc' := 19) C dX1_take_18 rfl rfl ?_
    refine k_X1_31 (pc' := 22) C (m_X1_placeOf) dX1_take_19 ⟨⟨Nat.le_of_ble_eq_true rfl, Nat.le_of_ble_eq_true rfl⟩, rfl, rfl⟩ (Nat.le_of_ble_eq_true rfl) ⟨Nat.zero_le _, Nat.zero_le _⟩ rfl ?_
    refine g_istore (pc' := 24) C dX1_take_22 rfl rfl ?_
    refine g_aload_n (pc' := 25) C dX1_take_24 rfl rfl ?_
    refine f_X1_24 (pc' := 28) C dX1_take_25 (by first | assumption | exact rfl | exact al13 rfl | exact Nat.le_of_ble_eq_true rfl) rfl ?_
    refine g_iload (pc' := 30) C dX1_take_28 rfl rfl ?_
    refine g_null (pc' := 31) C dX1_take_30 rfl ?_
    refine g_aastN (pc' := 32) (t0 := 2) C (rg x) (rg_eq x) (rg_lt x) dX1_take_31 (by first | assumption | exact rfl | exact al13 rfl | exact Nat.le_of_ble_eq_true rfl) (fun _ => rfl) rfl rfl rfl ?_
    refine g_aload (pc' := 34) C dX1_take_32 rfl rfl ?_
    refine g_aload_n (pc' := 35) C dX1_take_34 rfl rfl ?_
    refine g_acmp_ne2 (tgt := 40) (pc' := 38) C (by first | assumption | exact rfl | exact al13 rfl | exact Nat.le_of_ble_eq_true rfl) (by first | assumption | exact rfl | exact al13 rfl | exact Nat.le_of_ble_eq_true rfl) dX1_take_35 (by decide) rfl (fun c1 => ?_) (fun c1 => ?_)
    ·
      refine g_aload_n (pc' := 41) C dX1_take_40 rfl rfl ?_
      refine f_X1_28 (pc' := 44) C dX1_take_41 (by first | assumption | exact rfl | exact al13 rfl | exact Nat.le_of_ble_eq_true rfl) rfl ?_
      refine g_iload (pc' := 46) C dX1_take_44 rfl rfl ?_
      refine g_iald (pc' := 47) C (rg x) (rg_eq x) (rg_lt x) dX1_take_46 (by first | assumption | exact rfl | exact al13 rfl | exact Nat.le_of_ble_eq_true rfl) rfl rfl rfl ?_
      refine g_iconst (v := 2) (pc' := 48) C dX1_take_47 (by decide) rfl ?_
      refine g_idiv (pc' := 49) C dX1_take_48 (by decide) rfl ?_
      refine g_istore (pc' := 51) C dX1_take_49 rfl rfl ?_
      refine g_aload (pc' := 53) C dX1_take_51 rfl rfl ?_
      refine g_dup (pc' := 54) C dX1_take_53 rfl rfl ?_
      refine f_X1_39 (pc' := 57) C dX1_take_54 (by first | assumption | exact rfl | exact al13 rfl | exact Nat.le_of_ble_eq_true rfl) rfl ?_
      refine g_iload (pc' := 59) C dX1_take_57 rfl rfl ?_
      refine g_iadd (pc' := 60) C dX1_take_59 rfl ?_
      refine p_X1_39 (pc' := 63) C dX1_take_60 (by first | assumption | exact rfl | exact al13 rfl | exact Nat.le_of_ble_eq_true rfl) rfl ?_
      refine g_iload (pc' := 65) C dX1_take_63 rfl rfl ?_
      exact g_iret C hR dX1_take_65 ⟨by simp [tkR, hpy, c1], by simp [tkI, hpy, c1], by simp [tkP, hpy, c1]⟩
    ·
      refine g_iconst (v := 0) (pc' := 39) C dX1_take_38 (by decide) rfl ?_
      exact g_iret C hR dX1_take_39 ⟨by simp [tkR, hpy, c1], by simp [tkI, hpy, c1], by simp [tkP, hpy, c1]⟩
set_option maxRecDepth 20000 in
theorem l_X1_hoursPaidBy {K : wK} {rm : Room} {z : wZ} {I : wI} {P : wP} {O : wO} {post : Option Value → wI → wP → Prop} {i m : Nat} {y : Int32} (C : Cx K cX1_hoursPaidBy RX1 5 (some .int) rm z) (hR : Rx K z O post) (hi : wAl z 1 i) (hm2 : wAl z 2 m) (hP9 : ∀ k q, k < 16 → P 9 i k = some q → wAl z 2 q) : ∀ (n k : Nat) (x3 x4 : Int32), x4 = nI k → k + n = 16 → post (some (.int (hpL I P i m y n k x3))) I P → G K z I P O 0 0 5 [(0, .ref ((Kg K).2.2 1 i)), (1, .ref ((Kg K).2.2 2 m)), (2, .int y), (3, .int x3), (4, .int x4)] [] := by
  intro n
  induction n with
  | zero =>
    intro k x3 x4 ex4 hk hpost
    refine g_iload (pc' := 7) C dX1_hoursPaidBy_5 rfl rfl ?_
    refine g_bipush (v := 16) (pc' := 9) C dX1_hoursPaidBy_7 (by decide) rfl ?_
    refine g_icmp_ge (tgt := 43) (pc' := 12) C dX1_hoursPaidBy_9 (by decide) rfl (fun _ => ?_) (fun h => absurd (by rw [ex4, show k = 16 by omega]; decide) h)
    refine g_iload_n (pc' := 44) C dX1_hoursPaidBy_43 rfl rfl ?_
    exact g_iret C hR dX1_hoursPaidBy_44 hpost
  | succ n ih =>
    intro k x3 x4 ex4 hk hpost
    refine g_iload (pc' := 7) C dX1_hoursPaidBy_5 rfl rfl ?_
    refine g_bipush (v := 16) (pc' := 9) C dX1_hoursPaidBy_7 (by decide) rfl ?_
    refine g_icmp_ge (tgt := 43) (pc' := 12) C dX1_hoursPaidBy_9 (by decide) rfl (fun c1 => absurd c1 (by rw [ex4]; exact nI_ge (a := k) (b := 16) (by omega) (by decide))) (fun c1 => ?_)
    refine g_aload_n (pc' := 13) C dX1_hoursPaidBy_12 rfl rfl ?_
    refine f_X1_24 (pc' := 16) C dX1_hoursPaidBy_13 (by first | assumption | exact rfl | exact al13 rfl | exact Nat.le_of_ble_eq_true rfl) rfl ?_
    refine g_iload (pc' := 18) C dX1_hoursPaidBy_16 rfl rfl ?_
    rcases hq : P 9 i k with _ | q
    · refine g_aald (pc' := 19) (t0 := 2) C k ex4 (by omega) hq dX1_hoursPaidBy_18 (by first | assumption | exact rfl | exact al13 rfl | exact Nat.le_of_ble_eq_true rfl) rfl rfl rfl rfl ?_
      refine g_aload_n (pc' := 20) C dX1_hoursPaidBy_19 rfl rfl ?_
      refine g_acmp_ne (x := none) (y := some _) (tgt := 37) (pc' := 23) C dX1_hoursPaidBy_20 (by decide) rfl (fun _ => ?_) (fun h => by cases h)
      refine g_iinc (pc' := 40) C dX1_hoursPaidBy_37 rfl (ii1 _) rfl rfl ?_
      refine g_goto (tgt := 5) C dX1_hoursPaidBy_40 (by decide) ?_
      refine (ih (k + 1) _ _ (by rw [ex4]; exact (nI_1 k)) (by omega) ?_)
      simpa [hpL, c1, hq] using hpost
    · have hq2 : wAl z 2 q := hP9 k q (by omega) hq
      refine g_aald (pc' := 19) (t0 := 2) C k ex4 (by omega) hq dX1_hoursPaidBy_18 (by first | assumption | exact rfl | exact al13 rfl | exact Nat.le_of_ble_eq_true rfl) rfl rfl rfl rfl ?_
      refine g_aload_n (pc' := 20) C dX1_hoursPaidBy_19 rfl rfl ?_
      refine g_acmp_ne2 (tgt := 37) (pc' := 23) C (by first | assumption | exact rfl | exact al13 rfl | exact Nat.le_of_ble_eq_true rfl) (by first | assumption | exact rfl | exact al13 rfl | exact Nat.le_of_ble_eq_true rfl) dX1_hoursPaidBy_20 (by decide) rfl (fun c2 => ?_) (fun c2 => ?_)
      ·
        refine g_iinc (pc' := 40) C dX1_hoursPaidBy_37 rfl (ii1 _) rfl rfl ?_
        refine g_goto (tgt := 5) C dX1_hoursPaidBy_40 (by decide) ?_
        refine (ih (k + 1) _ _ (by rw [ex4]; exact (nI_1 k)) (by omega) ?_)
        simpa [hpL, c1, hq, c2] using hpost
      ·
        refine g_aload_n (pc' := 24) C dX1_hoursPaidBy_23 rfl rfl ?_
        refine f_X1_18 (pc' := 27) C dX1_hoursPaidBy_24 (by first | assumption | exact rfl | exact al13 rfl | exact Nat.le_of_ble_eq_true rfl) rfl ?_
        refine g_iload (pc' := 29) C dX1_hoursPaidBy_27 rfl rfl ?_
        refine g_iald (pc' := 30) C (k) ex4 (by omega) dX1_hoursPaidBy_29 (by first | assumption | exact rfl | exact al13 rfl | exact Nat.le_of_ble_eq_true rfl) rfl rfl rfl ?_
        refine g_iload_n (pc' := 31) C dX1_hoursPaidBy_30 rfl rfl ?_
        refine g_icmp_le (tgt := 37) (pc' := 34) C dX1_hoursPaidBy_31 (by decide) rfl (fun c3 => ?_) (fun c3 => ?_)
        ·
          refine g_iinc (pc' := 40) C dX1_hoursPaidBy_37 rfl (ii1 _) rfl rfl ?_
          refine g_goto (tgt := 5) C dX1_hoursPaidBy_40 (by decide) ?_
          refine (ih (k + 1) _ _ (by rw [ex4]; exact (nI_1 k)) (by omega) ?_)
          simpa [hpL, c1, hq, c2, c3] using hpost
        ·
          refine g_iinc (pc' := 37) C dX1_hoursPaidBy_34 rfl (ii1 _) rfl rfl ?_
          refine g_iinc (pc' := 40) C dX1_hoursPaidBy_37 rfl (ii1 _) rfl rfl ?_
          refine g_goto (tgt := 5) C dX1_hoursPaidBy_40 (by decide) ?_
          refine (ih (k + 1) _ _ (by rw [ex4]; exact (nI_1 k)) (by omega) ?_)
          simpa [hpL, c1, hq, c2, c3] using hpost
set_option maxRecDepth 20000 in
theorem m_X1_hoursPaidBy {l : Launch} {g : wG} {z : wZ} {I : wI} {P : wP} {O : wO} {i m : Nat} {y : Int32} (hi : wAl z 1 i) (hm2 : wAl z 2 m) (hP9 : ∀ k q, k < 16 → P 9 i k = some q → wAl z 2 q) : RT l yX1_hoursPaidBy cX1_hoursPaidBy 5 ((some .int)) { frames := 0, cells := 0, slots := 0, locals := 0 } g z [.ref (g.2.2 1 i), .ref (g.2.2 2 m), .int y] I P O (dp (some (.int (hpL I P i m y 16 0 0))) (I) (P)) := by
  refine RT.of (own := RX1) rfl (by decide +kernel) (Nat.le_of_ble_eq_true rfl) rfl (fun K C hl hg hR => ?_)
  subst hl
  subst hg
  refine g_iconst (v := 0) (pc' := 1) C dX1_hoursPaidBy_0 (by decide) rfl ?_
  refine g_istore_n (pc' := 2) C dX1_hoursPaidBy_1 rfl rfl ?_
  refine g_iconst (v := 0) (pc' := 3) C dX1_hoursPaidBy_2 (by decide) rfl ?_
  refine g_istore (pc' := 5) C dX1_hoursPaidBy_3 rfl rfl ?_
  exact l_X1_hoursPaidBy C hR hi hm2 hP9 16 0 0 0 nI_0.symm rfl ⟨rfl, rfl, rfl⟩
end WLeaf
