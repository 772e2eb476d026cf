section WModel4
def oM (x : Int32) (n : Nat) : Bool := decide (x < 0 ∨ nI n ≤ x)
theorem oM_T {x : Int32} {n : Nat} (h : x < 0 ∨ nI n ≤ x) : oM x n = true := decide_eq_true h
theorem oM_F {x : Int32} {n j : Nat} (hj : j < n) (hx : x = nI j) (hn : n < 2 ^ 31) : oM x n = false := decide_eq_false (fun e => by
  rw [hx] at e
  exact e.elim (nI_pos (by omega)) (nI_ge hj hn))
theorem oM_of {x : Int32} {n : Nat} (h : oM x n = false) (hn : n < 2 ^ 31) : ∃ j, j < n ∧ x = nI j := (in_of x n hn).resolve_right (of_decide_eq_false h)
theorem inR_of {x : Int32} {n : Nat} (hn : n < 2 ^ 31) (h : inR x 0 (nI n) = true) : ∃ j, j ≤ n ∧ x = nI j := by
  simp only [inR, Bool.and_eq_true, Bool.not_eq_true', decide_eq_false_iff_not] at h
  obtain ⟨j, hj2, hj⟩ := nI_of h.1
  refine ⟨j, ?_, hj⟩
  rcases Nat.lt_or_ge n j with q | q
  · exact absurd (by rw [hj]; exact nI_lt q hj2) h.2
  · exact q
def th (I : wI) (v : Int32) : wI := upI I 12 0 0 v
def mK0 (x y w : Int32) : Int32 := if inR x 0 3 = true then (if inR y 0 15 = true ∧ inR w 1 99 = true then 0 else 2) else 1
def mO0 (I : wI) (x y w : Int32) : wI × Int32 := if mK0 x y w = 0 then (upI (upI (th I 0) 13 2 x.toNatClampNeg y) 13 3 x.toNatClampNeg w, th I 0 13 3 x.toNatClampNeg) else (th I (mK0 x y w), 0)
def mK1 (x : Int32) : Int32 := if inR x 0 5 = true then 0 else 1
def mO1 (I : wI) (x y : Int32) : wI × Int32 := if mK1 x = 0 then (upI (th I 0) 13 4 x.toNatClampNeg y, th I 0 13 4 x.toNatClampNeg) else (th I (mK1 x), 0)
def mK2 (M : Nat) (x0 x1 x2 x3 : Int32) : Int32 := if inR x0 0 3 = true ∧ inR x1 0 5 = true ∧ inR x2 0 5 = true ∧ inR x3 (-1) 3 = true then (if x1 = x2 then 2 else if M = 12 then 3 else 0) else 1
def mO2 (I : wI) (M : Nat) (x0 x1 x2 x3 : Int32) : wI × Int32 := if mK2 M x0 x1 x2 x3 = 0 then (upI (upI (upI (upI (upI (upI (upI (th I 0) 13 7 M x0) 13 8 M x1) 13 9 M x2) 13 10 M x3) 13 11 M (if I 13 4 x1.toNatClampNeg = 0 then -50 else 0)) 13 12 M (I 12 0 1 + 100)) 12 0 5 (nI (M + 1)), nI M) else (th I (mK2 M x0 x1 x2 x3), 0)
def mK3 (M : Nat) (x y : Int32) : Int32 := if oM x M = true then 1 else if inR y 1 9999 = true then 0 else 2
def mO3 (I : wI) (M : Nat) (x y : Int32) : wI × Int32 := if mK3 M x y = 0 then (upI (th I 0) 13 11 x.toNatClampNeg (th I 0 13 11 x.toNatClampNeg + y), th I 0 13 11 x.toNatClampNeg + y) else (th I (mK3 M x y), 0)
def mKs (I : wI) (M : Nat) (x s : Int32) : Int32 := if oM x M = true then 1 else if I 13 6 x.toNatClampNeg = s then 0 else 2
def mO6 (I : wI) (M : Nat) (x y : Int32) : wI × Int32 := if mKs I M x 3 = 0 then (upI (th I 0) 13 6 x.toNatClampNeg (if y = 0 then 2 else 0), I 13 12 x.toNatClampNeg) else (th I (mKs I M x 3), 0)
def mO7 (I : wI) (M : Nat) (x : Int32) : wI × Int32 := if mKs I M x 2 = 0 then (upI (th I 0) 13 6 x.toNatClampNeg 4, I 13 11 x.toNatClampNeg) else (th I (mKs I M x 2), 0)
def mK5 (I : wI) (M : Nat) (x : Int32) : Int32 := if oM x M = true then 1 else if I 13 6 x.toNatClampNeg = 2 ∧ 0 ≤ I 13 11 x.toNatClampNeg then 0 else 2
def mFe (I : wI) (m : Nat) (fee : Int32) : Int32 := if I 13 4 (mf I m) = 0 then fee else 0
def mO5 (I : wI) (M : Nat) (x : Int32) : wI × Int32 := if mK5 I M x = 0 then (upI (upI (th I 0) 13 6 x.toNatClampNeg 3) 13 11 x.toNatClampNeg (I 13 11 x.toNatClampNeg - mFe I x.toNatClampNeg 80), I 13 11 x.toNatClampNeg - mFe I x.toNatClampNeg 80) else (th I (mK5 I M x), 0)
def mdS (m h : Nat) (s : wI × Int32) : wI × Int32 := if mm s.1 h = m ∧ s.1 13 14 h = 0 then (upI (mLv h s.1) 13 14 h 3, s.2 + 1) else s
def mdL (m : Nat) : Nat → Nat → wI × Int32 → wI × Int32
  | 0, _, s => s
  | n + 1, h, s => mdL m n (h + 1) (mdS m h s)
def mO4 (I : wI) (M N : Nat) (x : Int32) : wI × Int32 := if mKs I M x 1 = 0 then mdL x.toNatClampNeg N 0 (upI (th I 0) 13 6 x.toNatClampNeg 2, 0) else (th I (mKs I M x 1), 0)
theorem MI.th {M N : Nat} {I : wI} (X : MI M N I) {v : Int32} : MI M N (th I v) := X.up _ (by omega)
theorem th_off {I : wI} {v : Int32} {k j c : Nat} (h : ¬ (k = 12 ∧ j = 0 ∧ c = 0)) : th I v k j c = I k j c := by unfold th; rw [upI_at, if_neg h]
theorem MI.lv {M N : Nat} {j m : Nat} (hm : m < M) : ∀ (n k : Nat) (I : wI), MI M N I → MI M N (mLvL j m n k I)
  | 0, _, _, X => X
  | n + 1, k, I, X => MI.lv hm n (k + 1) _ (by
    unfold mLvS
    split
    · exact (X.up22 (p := m + 1) (by omega) (nI_1 m)).up _ (by omega)
    · exact X.up _ (by omega))
theorem MI.lv' {M N : Nat} {I : wI} (X : MI M N I) {h : Nat} (hh : h < N) : MI M N (mLv h I) := by
  unfold mLv
  split
  · exact X
  · exact MI.lv (X.mtM hh) _ _ _ X
theorem MI.c0 {M N : Nat} {j m : Nat} : ∀ (n k : Nat) (I : wI), MI M N I → MI M N (mC0L j m n k I)
  | 0, _, _, X => X
  | n + 1, k, I, X => MI.c0 n (k + 1) _ ((X.up _ (by omega)).up _ (by omega))
theorem MI.cm {M N : Nat} {j m : Nat} : ∀ (n k : Nat) (I : wI), MI M N I → MI M N (mCmL j m n k I)
  | 0, _, _, X => X
  | n + 1, k, I, X => MI.cm n (k + 1) _ (by
    unfold mCmS
    by_cases hp : mpy I (mAt I j k) = 0 ∨ mpy I (mAt I j k) = m + 1
    · simp only [if_pos hp]
      exact (((X.up22 (p := 0) (by omega) rfl).up _ (by omega)).up _ (by omega)).up _ (by omega)
    · simp only [if_neg hp]
      exact ((((X.up _ (by omega)).up22 (p := 0) (by omega) rfl).up _ (by omega)).up _ (by omega)).up _ (by omega))
theorem MI.cm' {M N : Nat} {I : wI} (X : MI M N I) {h : Nat} : MI M N (mCm h I) := by
  unfold mCm
  split
  · exact MI.c0 _ _ _ X
  · exact MI.cm _ _ _ X
set_option maxRecDepth 20000 in
theorem m_X4_interpreter {l : Launch} {g : wG} {z : wZ} {I : wI} {P : wP} {O : wO} {x y w : Int32} : RT l yX4_interpreter cX4_interpreter 5 ((some .int)) { frames := 1, cells := 0, slots := 0, locals := 22 } g z [.ref (g.2.2 12 0), .int x, .int y, .int w] I P O (dp (some (.int (mO0 I x y w).2)) ((mO0 I x y w).1) (P)) := by
  refine RT.of (own := RX4) rfl (by decide +kernel) (Nat.le_of_ble_eq_true rfl) rfl (fun K C hl hg hR => ?_)
  subst hl
  subst hg
  refine g_aload_n (pc' := 1) C dX4_interpreter_0 rfl rfl ?_
  refine g_iload_n (pc' := 2) C dX4_interpreter_1 rfl rfl ?_
  refine g_iconst (v := 0) (pc' := 3) C dX4_interpreter_2 (by decide) rfl ?_
  refine g_iconst (v := 3) (pc' := 4) C dX4_interpreter_3 (by decide) rfl ?_
  refine k_X4_78 (pc' := 7) C (m_X4_in) dX4_interpreter_4 ⟨⟨Nat.le_of_ble_eq_true rfl, Nat.le_of_ble_eq_true rfl⟩, rfl, rfl⟩ (Nat.le_of_ble_eq_true rfl) ⟨Nat.zero_le _, Nat.zero_le _⟩ rfl ?_
  refine g_if_ne (tgt := 14) (pc' := 10) C dX4_interpreter_7 (by decide) rfl (fun c1 => ?_) (fun c1 => ?_)
  ·
    have c1 := b2_1.mp c1
    refine g_iload_n (pc' := 15) C dX4_interpreter_14 rfl rfl ?_
    refine g_iconst (v := 0) (pc' := 16) C dX4_interpreter_15 (by decide) rfl ?_
    refine g_bipush (v := 15) (pc' := 18) C dX4_interpreter_16 (by decide) rfl ?_
    refine k_X4_78 (pc' := 21) C (m_X4_in) dX4_interpreter_18 ⟨⟨Nat.le_of_ble_eq_true rfl, Nat.le_of_ble_eq_true rfl⟩, rfl, rfl⟩ (Nat.le_of_ble_eq_true rfl) ⟨Nat.zero_le _, Nat.zero_le _⟩ rfl ?_
    refine g_if_eq (tgt := 34) (pc' := 24) C dX4_interpreter_21 (by decide) rfl (fun c2 => ?_) (fun c2 => ?_)
    ·
      have c2 := b2_0.mp c2
      refine g_iconst (v := 2) (pc' := 35) C dX4_interpreter_34 (by decide) rfl ?_
      refine g_goto (tgt := 39) C dX4_interpreter_35 (by decide) ?_
      refine p_X4_71 (pc' := 42) C dX4_interpreter_39 (by first | assumption | exact rfl | exact al13 rfl | exact Nat.le_of_ble_eq_true rfl) rfl ?_
      refine g_aload_n (pc' := 43) C dX4_interpreter_42 rfl rfl ?_
      refine f_X4_71 (pc' := 46) C dX4_interpreter_43 (by first | assumption | exact rfl | exact al13 rfl | exact Nat.le_of_ble_eq_true rfl) rfl ?_
      refine g_if_le (tgt := 51) (pc' := 49) C dX4_interpreter_46 (by decide) rfl (fun c3 => absurd c3 (by first | decide | rw [thv]; decide)) (fun c3 => ?_)
      refine g_iconst (v := 0) (pc' := 50) C dX4_interpreter_49 (by decide) rfl ?_
      exact g_iret C hR dX4_interpreter_50 ⟨by simp [mO0, mK0, th, c1, c2, c3], by simp [mO0, mK0, th, c1, c2, c3], rfl⟩
    ·
      have c2 := b2_1.mp c2
      refine g_iload_n (pc' := 25) C dX4_interpreter_24 rfl rfl ?_
      refine g_iconst (v := 1) (pc' := 26) C dX4_interpreter_25 (by decide) rfl ?_
      refine g_bipush (v := 99) (pc' := 28) C dX4_interpreter_26 (by decide) rfl ?_
      refine k_X4_78 (pc' := 31) C (m_X4_in) dX4_interpreter_28 ⟨⟨Nat.le_of_ble_eq_true rfl, Nat.le_of_ble_eq_true rfl⟩, rfl, rfl⟩ (Nat.le_of_ble_eq_true rfl) ⟨Nat.zero_le _, Nat.zero_le _⟩ rfl ?_
      refine g_if_ne (tgt := 38) (pc' := 34) C dX4_interpreter_31 (by decide) rfl (fun c4 => ?_) (fun c4 => ?_)
      ·
        have c4 := b2_1.mp c4
        refine g_iconst (v := 0) (pc' := 39) C dX4_interpreter_38 (by decide) rfl ?_
        refine p_X4_71 (pc' := 42) C dX4_interpreter_39 (by first | assumption | exact rfl | exact al13 rfl | exact Nat.le_of_ble_eq_true rfl) rfl ?_
        refine g_aload_n (pc' := 43) C dX4_interpreter_42 rfl rfl ?_
        refine f_X4_71 (pc' := 46) C dX4_interpreter_43 (by first | assumption | exact rfl | exact al13 rfl | exact Nat.le_of_ble_eq_true rfl) rfl ?_
        refine g_if_le (tgt := 51) (pc' := 49) C dX4_interpreter_46 (by decide) rfl (fun c5 => ?_) (fun c5 => absurd (by first | decide | rw [thv]; decide) c5)
        obtain ⟨j, hj4, hj⟩ := inR_of (n := 3) (by decide) c1
        have hjb : j < 4 := by omega
        have hcl : x.toNatClampNeg = j := by rw [hj]; exact nI_clamp (by omega)
        refine g_aload_n (pc' := 52) C dX4_interpreter_51 rfl rfl ?_
        refine f_X4_13 (pc' := 55) C dX4_interpreter_52 (by first | assumption | exact rfl | exact al13 rfl | exact Nat.le_of_ble_eq_true rfl) rfl ?_
        refine g_iload_n (pc' := 56) C dX4_interpreter_55 rfl rfl ?_
        refine g_iald (pc' := 57) C (j) hj hjb dX4_interpreter_56 (by first | assumption | exact rfl | exact al13 rfl | exact Nat.le_of_ble_eq_true rfl) rfl rfl rfl ?_
        refine g_istore (pc' := 59) C dX4_interpreter_57 rfl rfl ?_
        refine g_aload_n (pc' := 60) C dX4_interpreter_59 rfl rfl ?_
        refine f_X4_7 (pc' := 63) C dX4_interpreter_60 (by first | assumption | exact rfl | exact al13 rfl | exact Nat.le_of_ble_eq_true rfl) rfl ?_
        refine g_iload_n (pc' := 64) C dX4_interpreter_63 rfl rfl ?_
        refine g_iload_n (pc' := 65) C dX4_interpreter_64 rfl rfl ?_
        refine g_iast (pc' := 66) C (j) hj hjb dX4_interpreter_65 (by first | assumption | exact rfl | exact al13 rfl | exact Nat.le_of_ble_eq_true rfl) (fun _ => rfl) rfl rfl ?_
        refine g_aload_n (pc' := 67) C dX4_interpreter_66 rfl rfl ?_
        refine f_X4_13 (pc' := 70) C dX4_interpreter_67 (by first | assumption | exact rfl | exact al13 rfl | exact Nat.le_of_ble_eq_true rfl) rfl ?_
        refine g_iload_n (pc' := 71) C dX4_interpreter_70 rfl rfl ?_
        refine g_iload_n (pc' := 72) C dX4_interpreter_71 rfl rfl ?_
        refine g_iast (pc' := 73) C (j) hj hjb dX4_interpreter_72 (by first | assumption | exact rfl | exact al13 rfl | exact Nat.le_of_ble_eq_true rfl) (fun _ => rfl) rfl rfl ?_
        refine g_iload (pc' := 75) C dX4_interpreter_73 rfl rfl ?_
        exact g_iret C hR dX4_interpreter_75 ⟨by simp [mO0, mK0, th, c1, c2, c4, c5, hcl], by simp [mO0, mK0, th, c1, c2, c4, c5, hcl], rfl⟩
      ·
        have c4 := b2_0.mp c4
        refine g_iconst (v := 2) (pc' := 35) C dX4_interpreter_34 (by decide) rfl ?_
        refine g_goto (tgt := 39) C dX4_interpreter_35 (by decide) ?_
        refine p_X4_71 (pc' := 42) C dX4_interpreter_39 (by first | assumption | exact rfl | exact al13 rfl | exact Nat.le_of_ble_eq_true rfl) rfl ?_
        refine g_aload_n (pc' := 43) C dX4_interpreter_42 rfl rfl ?_
        refine f_X4_71 (pc' := 46) C dX4_interpreter_43 (by first | assumption | exact rfl | exact al13 rfl | exact Nat.le_of_ble_eq_true rfl) rfl ?_
        refine g_if_le (tgt := 51) (pc' := 49) C dX4_interpreter_46 (by decide) rfl (fun c6 => absurd c6 (by first | decide | rw [thv]; decide)) (fun c6 => ?_)
        refine g_iconst (v := 0) (pc' := 50) C dX4_interpreter_49 (by decide) rfl ?_
        exact g_iret C hR dX4_interpreter_50 ⟨by simp [mO0, mK0, th, c1, c2, c4, c6], by simp [mO0, mK0, th, c1, c2, c4, c6], rfl⟩
  ·
    have c1 := b2_0.mp c1
    refine g_iconst (v := 1) (pc' := 11) C dX4_interpreter_10 (by decide) rfl ?_
    refine g_goto (tgt := 39) C dX4_interpreter_11 (by decide) ?_
    refine p_X4_71 (pc' := 42) C dX4_interpreter_39 (by first | assumption | exact rfl | exact al13 rfl | exact Nat.le_of_ble_eq_true rfl) rfl ?_
    refine g_aload_n (pc' := 43) C dX4_interpreter_42 rfl rfl ?_
    refine f_X4_71 (pc' := 46) C dX4_interpreter_43 (by first | assumption | exact rfl | exact al13 rfl | exact Nat.le_of_ble_eq_true rfl) rfl ?_
    refine g_if_le (tgt := 51) (pc' := 49) C dX4_interpreter_46 (by decide) rfl (fun c7 => absurd c7 (by first | decide | rw [thv]; decide)) (fun c7 => ?_)
    refine g_iconst (v := 0) (pc' := 50) C dX4_interpreter_49 (by decide) rfl ?_
    exact g_iret C hR dX4_interpreter_50 ⟨by simp [mO0, mK0, th, c1, c7], by simp [mO0, mK0, th, c1, c7], rfl⟩
set_option maxRecDepth 20000 in
theorem m_X4_waive {l : Launch} {g : wG} {z : wZ} {I : wI} {P : wP} {O : wO} {x y : Int32} (hy : vp_nar .boolean y = y) (h01 : ∀ j, j < 6 → I 13 4 j = 0 ∨ I 13 4 j = 1) : RT l yX4_waive cX4_waive 4 ((some .boolean)) { frames := 1, cells := 0, slots := 0, locals := 22 } g z [.ref (g.2.2 12 0), .int x, .int y] I P O (dp (some (.int (mO1 I x y).2)) ((mO1 I x y).1) (P)) := by
  refine RT.of (own := RX4) rfl (by decide +kernel) (Nat.le_of_ble_eq_true rfl) rfl (fun K C hl hg hR => ?_)
  subst hl
  subst hg
  refine g_aload_n (pc' := 1) C dX4_waive_0 rfl rfl ?_
  refine g_iload_n (pc' := 2) C dX4_waive_1 rfl rfl ?_
  refine g_iconst (v := 0) (pc' := 3) C dX4_waive_2 (by decide) rfl ?_
  refine g_iconst (v := 5) (pc' := 4) C dX4_waive_3 (by decide) rfl ?_
  refine k_X4_78 (pc' := 7) C (m_X4_in) dX4_waive_4 ⟨⟨Nat.le_of_ble_eq_true rfl, Nat.le_of_ble_eq_true rfl⟩, rfl, rfl⟩ (Nat.le_of_ble_eq_true rfl) ⟨Nat.zero_le _, Nat.zero_le _⟩ rfl ?_
  refine g_if_eq (tgt := 14) (pc' := 10) C dX4_waive_7 (by decide) rfl (fun c1 => ?_) (fun c1 => ?_)
  ·
    have c1 := b2_0.mp c1
    refine g_iconst (v := 1) (pc' := 15) C dX4_waive_14 (by decide) rfl ?_
    refine p_X4_71 (pc' := 18) C dX4_waive_15 (by first | assumption | exact rfl | exact al13 rfl | exact Nat.le_of_ble_eq_true rfl) rfl ?_
    refine g_aload_n (pc' := 19) C dX4_waive_18 rfl rfl ?_
    refine f_X4_71 (pc' := 22) C dX4_waive_19 (by first | assumption | exact rfl | exact al13 rfl | exact Nat.le_of_ble_eq_true rfl) rfl ?_
    refine g_if_le (tgt := 27) (pc' := 25) C dX4_waive_22 (by decide) rfl (fun c2 => absurd c2 (by first | decide | rw [thv]; decide)) (fun c2 => ?_)
    refine g_iconst (v := 0) (pc' := 26) C dX4_waive_25 (by decide) rfl ?_
    exact g_zret C hR dX4_waive_26 rfl ⟨by simp [mO1, mK1, th, c1, c2], by simp [mO1, mK1, th, c1, c2], rfl⟩
  ·
    have c1 := b2_1.mp c1
    refine g_iconst (v := 0) (pc' := 11) C dX4_waive_10 (by decide) rfl ?_
    refine g_goto (tgt := 15) C dX4_waive_11 (by decide) ?_
    refine p_X4_71 (pc' := 18) C dX4_waive_15 (by first | assumption | exact rfl | exact al13 rfl | exact Nat.le_of_ble_eq_true rfl) rfl ?_
    refine g_aload_n (pc' := 19) C dX4_waive_18 rfl rfl ?_
    refine f_X4_71 (pc' := 22) C dX4_waive_19 (by first | assumption | exact rfl | exact al13 rfl | exact Nat.le_of_ble_eq_true rfl) rfl ?_
    refine g_if_le (tgt := 27) (pc' := 25) C dX4_waive_22 (by decide) rfl (fun c3 => ?_) (fun c3 => absurd (by first | decide | rw [thv]; decide) c3)
    obtain ⟨j, hj4, hj⟩ := inR_of (n := 5) (by decide) c1
    have hjb : j < 6 := by omega
    have hcl : x.toNatClampNeg = j := by rw [hj]; exact nI_clamp (by omega)
    refine g_aload_n (pc' := 28) C dX4_waive_27 rfl rfl ?_
    refine f_X4_16 (pc' := 31) C dX4_waive_28 (by first | assumption | exact rfl | exact al13 rfl | exact Nat.le_of_ble_eq_true rfl) rfl ?_
    refine g_iload_n (pc' := 32) C dX4_waive_31 rfl rfl ?_
    refine g_zald (pc' := 33) C (j) hj hjb dX4_waive_32 (by first | assumption | exact rfl | exact al13 rfl | exact Nat.le_of_ble_eq_true rfl) rfl rfl rfl ?_
    refine g_istore_n (pc' := 34) C dX4_waive_33 rfl rfl ?_
    refine g_aload_n (pc' := 35) C dX4_waive_34 rfl rfl ?_
    refine f_X4_16 (pc' := 38) C dX4_waive_35 (by first | assumption | exact rfl | exact al13 rfl | exact Nat.le_of_ble_eq_true rfl) rfl ?_
    refine g_iload_n (pc' := 39) C dX4_waive_38 rfl rfl ?_
    refine g_iload_n (pc' := 40) C dX4_waive_39 rfl rfl ?_
    refine g_zast (pc' := 41) C (j) hj hjb hy dX4_waive_40 (by first | assumption | exact rfl | exact al13 rfl | exact Nat.le_of_ble_eq_true rfl) (fun _ => rfl) rfl rfl ?_
    refine g_iload_n (pc' := 42) C dX4_waive_41 rfl rfl ?_
    exact g_zret C hR dX4_waive_42 (by have := h01 j hjb; rw [upI_at, if_neg (by omega)]; rcases this with e | e <;> rw [e] <;> rfl) ⟨by simp [mO1, mK1, th, c1, c3, hcl], by simp [mO1, mK1, th, c1, c3, hcl], rfl⟩
set_option maxRecDepth 20000 in
theorem m_X4_file {l : Launch} {g : wG} {z : wZ} {I : wI} {P : wP} {O : wO} {M N : Nat} {x y w v : Int32} (X : MI M N I) : RT l yX4_file cX4_file 6 ((some .int)) { frames := 1, cells := 0, slots := 0, locals := 22 } g z [.ref (g.2.2 12 0), .int x, .int y, .int w, .int v] I P O (dp (some (.int (mO2 I M x y w v).2)) ((mO2 I M x y w v).1) (P)) := by
  refine RT.of (own := RX4) rfl (by decide +kernel) (Nat.le_of_ble_eq_true rfl) rfl (fun K C hl hg hR => ?_)
  subst hl
  subst hg
  have hM := X.2.2.1
  have hM12 := X.1
  refine g_iload_n (pc' := 1) C dX4_file_0 rfl rfl ?_
  refine g_iconst (v := 0) (pc' := 2) C dX4_file_1 (by decide) rfl ?_
  refine g_iconst (v := 3) (pc' := 3) C dX4_file_2 (by decide) rfl ?_
  refine k_X4_78 (pc' := 6) C (m_X4_in) dX4_file_3 ⟨⟨Nat.le_of_ble_eq_true rfl, Nat.le_of_ble_eq_true rfl⟩, rfl, rfl⟩ (Nat.le_of_ble_eq_true rfl) ⟨Nat.zero_le _, Nat.zero_le _⟩ rfl ?_
  refine g_if_eq (tgt := 41) (pc' := 9) C dX4_file_6 (by decide) rfl (fun c1 => ?_) (fun c1 => ?_)
  ·
    have c1 := b2_0.mp c1
    refine g_iconst (v := 0) (pc' := 42) C dX4_file_41 (by decide) rfl ?_
    refine g_istore (pc' := 44) C dX4_file_42 rfl rfl ?_
    refine g_aload_n (pc' := 45) C dX4_file_44 rfl rfl ?_
    refine g_iload (pc' := 47) C dX4_file_45 rfl rfl ?_
    refine g_if_ne (tgt := 54) (pc' := 50) C dX4_file_47 (by decide) rfl (fun c2 => absurd (by first | decide | rw [thv]; decide) c2) (fun c2 => ?_)
    refine g_iconst (v := 1) (pc' := 51) C dX4_file_50 (by decide) rfl ?_
    refine g_goto (tgt := 77) C dX4_file_51 (by decide) ?_
    refine p_X4_71 (pc' := 80) C dX4_file_77 (by first | assumption | exact rfl | exact al13 rfl | exact Nat.le_of_ble_eq_true rfl) rfl ?_
    refine g_aload_n (pc' := 81) C dX4_file_80 rfl rfl ?_
    refine f_X4_71 (pc' := 84) C dX4_file_81 (by first | assumption | exact rfl | exact al13 rfl | exact Nat.le_of_ble_eq_true rfl) rfl ?_
    refine g_if_le (tgt := 89) (pc' := 87) C dX4_file_84 (by decide) rfl (fun c3 => absurd c3 (by first | decide | rw [thv]; decide)) (fun c3 => ?_)
    refine g_iconst (v := 0) (pc' := 88) C dX4_file_87 (by decide) rfl ?_
    exact g_iret C hR dX4_file_88 ⟨by simp [mO2, mK2, th, c1, c2, c3], by simp [mO2, mK2, th, c1, c2, c3], rfl⟩
  ·
    have c1 := b2_1.mp c1
    refine g_iload_n (pc' := 10) C dX4_file_9 rfl rfl ?_
    refine g_iconst (v := 0) (pc' := 11) C dX4_file_10 (by decide) rfl ?_
    refine g_iconst (v := 5) (pc' := 12) C dX4_file_11 (by decide) rfl ?_
    refine k_X4_78 (pc' := 15) C (m_X4_in) dX4_file_12 ⟨⟨Nat.le_of_ble_eq_true rfl, Nat.le_of_ble_eq_true rfl⟩, rfl, rfl⟩ (Nat.le_of_ble_eq_true rfl) ⟨Nat.zero_le _, Nat.zero_le _⟩ rfl ?_
    refine g_if_eq (tgt := 41) (pc' := 18) C dX4_file_15 (by decide) rfl (fun c4 => ?_) (fun c4 => ?_)
    ·
      have c4 := b2_0.mp c4
      refine g_iconst (v := 0) (pc' := 42) C dX4_file_41 (by decide) rfl ?_
      refine g_istore (pc' := 44) C dX4_file_42 rfl rfl ?_
      refine g_aload_n (pc' := 45) C dX4_file_44 rfl rfl ?_
      refine g_iload (pc' := 47) C dX4_file_45 rfl rfl ?_
      refine g_if_ne (tgt := 54) (pc' := 50) C dX4_file_47 (by decide) rfl (fun c5 => absurd (by first | decide | rw [thv]; decide) c5) (fun c5 => ?_)
      refine g_iconst (v := 1) (pc' := 51) C dX4_file_50 (by decide) rfl ?_
      refine g_goto (tgt := 77) C dX4_file_51 (by decide) ?_
      refine p_X4_71 (pc' := 80) C dX4_file_77 (by first | assumption | exact rfl | exact al13 rfl | exact Nat.le_of_ble_eq_true rfl) rfl ?_
      refine g_aload_n (pc' := 81) C dX4_file_80 rfl rfl ?_
      refine f_X4_71 (pc' := 84) C dX4_file_81 (by first | assumption | exact rfl | exact al13 rfl | exact Nat.le_of_ble_eq_true rfl) rfl ?_
      refine g_if_le (tgt := 89) (pc' := 87) C dX4_file_84 (by decide) rfl (fun c6 => absurd c6 (by first | decide | rw [thv]; decide)) (fun c6 => ?_)
      refine g_iconst (v := 0) (pc' := 88) C dX4_file_87 (by decide) rfl ?_
      exact g_iret C hR dX4_file_88 ⟨by simp [mO2, mK2, th, c1, c4, c5, c6], by simp [mO2, mK2, th, c1, c4, c5, c6], rfl⟩
    ·
      have c4 := b2_1.mp c4
      refine g_iload_n (pc' := 19) C dX4_file_18 rfl rfl ?_
      refine g_iconst (v := 0) (pc' := 20) C dX4_file_19 (by decide) rfl ?_
      refine g_iconst (v := 5) (pc' := 21) C dX4_file_20 (by decide) rfl ?_
      refine k_X4_78 (pc' := 24) C (m_X4_in) dX4_file_21 ⟨⟨Nat.le_of_ble_eq_true rfl, Nat.le_of_ble_eq_true rfl⟩, rfl, rfl⟩ (Nat.le_of_ble_eq_true rfl) ⟨Nat.zero_le _, Nat.zero_le _⟩ rfl ?_
      refine g_if_eq (tgt := 41) (pc' := 27) C dX4_file_24 (by decide) rfl (fun c7 => ?_) (fun c7 => ?_)
      ·
        have c7 := b2_0.mp c7
        refine g_iconst (v := 0) (pc' := 42) C dX4_file_41 (by decide) rfl ?_
        refine g_istore (pc' := 44) C dX4_file_42 rfl rfl ?_
        refine g_aload_n (pc' := 45) C dX4_file_44 rfl rfl ?_
        refine g_iload (pc' := 47) C dX4_file_45 rfl rfl ?_
        refine g_if_ne (tgt := 54) (pc' := 50) C dX4_file_47 (by decide) rfl (fun c8 => absurd (by first | decide | rw [thv]; decide) c8) (fun c8 => ?_)
        refine g_iconst (v := 1) (pc' := 51) C dX4_file_50 (by decide) rfl ?_
        refine g_goto (tgt := 77) C dX4_file_51 (by decide) ?_
        refine p_X4_71 (pc' := 80) C dX4_file_77 (by first | assumption | exact rfl | exact al13 rfl | exact Nat.le_of_ble_eq_true rfl) rfl ?_
        refine g_aload_n (pc' := 81) C dX4_file_80 rfl rfl ?_
        refine f_X4_71 (pc' := 84) C dX4_file_81 (by first | assumption | exact rfl | exact al13 rfl | exact Nat.le_of_ble_eq_true rfl) rfl ?_
        refine g_if_le (tgt := 89) (pc' := 87) C dX4_file_84 (by decide) rfl (fun c9 => absurd c9 (by first | decide | rw [thv]; decide)) (fun c9 => ?_)
        refine g_iconst (v := 0) (pc' := 88) C dX4_file_87 (by decide) rfl ?_
        exact g_iret C hR dX4_file_88 ⟨by simp [mO2, mK2, th, c1, c4, c7, c8, c9], by simp [mO2, mK2, th, c1, c4, c7, c8, c9], rfl⟩
      ·
        have c7 := b2_1.mp c7
        refine g_iload (pc' := 29) C dX4_file_27 rfl rfl ?_
        refine g_iconst (v := (-1)) (pc' := 30) C dX4_file_29 (by decide) rfl ?_
        refine g_iconst (v := 3) (pc' := 31) C dX4_file_30 (by decide) rfl ?_
        refine k_X4_78 (pc' := 34) C (m_X4_in) dX4_file_31 ⟨⟨Nat.le_of_ble_eq_true rfl, Nat.le_of_ble_eq_true rfl⟩, rfl, rfl⟩ (Nat.le_of_ble_eq_true rfl) ⟨Nat.zero_le _, Nat.zero_le _⟩ rfl ?_
        refine g_if_eq (tgt := 41) (pc' := 37) C dX4_file_34 (by decide) rfl (fun c10 => ?_) (fun c10 => ?_)
        ·
          have c10 := b2_0.mp c10
          refine g_iconst (v := 0) (pc' := 42) C dX4_file_41 (by decide) rfl ?_
          refine g_istore (pc' := 44) C dX4_file_42 rfl rfl ?_
          refine g_aload_n (pc' := 45) C dX4_file_44 rfl rfl ?_
          refine g_iload (pc' := 47) C dX4_file_45 rfl rfl ?_
          refine g_if_ne (tgt := 54) (pc' := 50) C dX4_file_47 (by decide) rfl (fun c11 => absurd (by first | decide | rw [thv]; decide) c11) (fun c11 => ?_)
          refine g_iconst (v := 1) (pc' := 51) C dX4_file_50 (by decide) rfl ?_
          refine g_goto (tgt := 77) C dX4_file_51 (by decide) ?_
          refine p_X4_71 (pc' := 80) C dX4_file_77 (by first | assumption | exact rfl | exact al13 rfl | exact Nat.le_of_ble_eq_true rfl) rfl ?_
          refine g_aload_n (pc' := 81) C dX4_file_80 rfl rfl ?_
          refine f_X4_71 (pc' := 84) C dX4_file_81 (by first | assumption | exact rfl | exact al13 rfl | exact Nat.le_of_ble_eq_true rfl) rfl ?_
          refine g_if_le (tgt := 89) (pc' := 87) C dX4_file_84 (by decide) rfl (fun c12 => absurd c12 (by first | decide | rw [thv]; decide)) (fun c12 => ?_)
          refine g_iconst (v := 0) (pc' := 88) C dX4_file_87 (by decide) rfl ?_
          exact g_iret C hR dX4_file_88 ⟨by simp [mO2, mK2, th, c1, c4, c7, c10, c11, c12], by simp [mO2, mK2, th, c1, c4, c7, c10, c11, c12], rfl⟩
        ·
          have c10 := b2_1.mp c10
          refine g_iconst (v := 1) (pc' := 38) C dX4_file_37 (by decide) rfl ?_
          refine g_goto (tgt := 42) C dX4_file_38 (by decide) ?_
          refine g_istore (pc' := 44) C dX4_file_42 rfl rfl ?_
          refine g_aload_n (pc' := 45) C dX4_file_44 rfl rfl ?_
          refine g_iload (pc' := 47) C dX4_file_45 rfl rfl ?_
          refine g_if_ne (tgt := 54) (pc' := 50) C dX4_file_47 (by decide) rfl (fun c13 => ?_) (fun c13 => absurd c13 (by first | decide | rw [thv]; decide))
          refine g_iload_n (pc' := 55) C dX4_file_54 rfl rfl ?_
          refine g_iload_n (pc' := 56) C dX4_file_55 rfl rfl ?_
          refine g_icmp_ne (tgt := 63) (pc' := 59) C dX4_file_56 (by decide) rfl (fun c14 => ?_) (fun c14 => ?_)
          ·
            refine g_aload_n (pc' := 64) C dX4_file_63 rfl rfl ?_
            refine f_X4_75 (pc' := 67) C dX4_file_64 (by first | assumption | exact rfl | exact al13 rfl | exact Nat.le_of_ble_eq_true rfl) rfl ?_
            refine g_bipush (v := 12) (pc' := 69) C dX4_file_67 (by decide) rfl ?_
            by_cases hMe : M = 12
            · refine g_icmp_ne (tgt := 76) (pc' := 72) C dX4_file_69 (by decide) rfl (fun c => absurd (by rw [hM, hMe]; rfl) c) (fun _ => ?_)
              refine g_iconst (v := 3) (pc' := 73) C dX4_file_72 (by decide) rfl ?_
              refine g_goto (tgt := 77) C dX4_file_73 (by decide) ?_
              refine p_X4_71 (pc' := 80) C dX4_file_77 (by first | assumption | exact rfl | exact al13 rfl | exact Nat.le_of_ble_eq_true rfl) rfl ?_
              refine g_aload_n (pc' := 81) C dX4_file_80 rfl rfl ?_
              refine f_X4_71 (pc' := 84) C dX4_file_81 (by first | assumption | exact rfl | exact al13 rfl | exact Nat.le_of_ble_eq_true rfl) rfl ?_
              refine g_if_le (tgt := 89) (pc' := 87) C dX4_file_84 (by decide) rfl (fun c15 => absurd c15 (by first | decide | rw [thv]; decide)) (fun c15 => ?_)
              refine g_iconst (v := 0) (pc' := 88) C dX4_file_87 (by decide) rfl ?_
              exact g_iret C hR dX4_file_88 ⟨by simp [mO2, mK2, th, c1, c4, c7, c10, c13, c14, hMe, c15], by simp [mO2, mK2, th, c1, c4, c7, c10, c13, c14, hMe, c15], rfl⟩
            · refine g_icmp_ne (tgt := 76) (pc' := 72) C dX4_file_69 (by decide) rfl (fun _ => ?_) (fun c => absurd ((nI_eq (a := M) (b := 12) (by omega) (by decide)).mp (hM.symm.trans c)) hMe)
              refine g_iconst (v := 0) (pc' := 77) C dX4_file_76 (by decide) rfl ?_
              refine p_X4_71 (pc' := 80) C dX4_file_77 (by first | assumption | exact rfl | exact al13 rfl | exact Nat.le_of_ble_eq_true rfl) rfl ?_
              refine g_aload_n (pc' := 81) C dX4_file_80 rfl rfl ?_
              refine f_X4_71 (pc' := 84) C dX4_file_81 (by first | assumption | exact rfl | exact al13 rfl | exact Nat.le_of_ble_eq_true rfl) rfl ?_
              refine g_if_le (tgt := 89) (pc' := 87) C dX4_file_84 (by decide) rfl (fun c16 => ?_) (fun c16 => absurd (by first | decide | rw [thv]; decide) c16)
              obtain ⟨j, hj4, hj⟩ := inR_of (n := 5) (by decide) c4
              have hjb : j < 6 := by omega
              have hcl : y.toNatClampNeg = j := by rw [hj]; exact nI_clamp (by omega)
              have hMlt : M < 12 := by omega
              refine g_aload_n (pc' := 90) C dX4_file_89 rfl rfl ?_
              refine f_X4_23 (pc' := 93) C dX4_file_90 (by first | assumption | exact rfl | exact al13 rfl | exact Nat.le_of_ble_eq_true rfl) rfl ?_
              refine g_aload_n (pc' := 94) C dX4_file_93 rfl rfl ?_
              refine f_X4_75 (pc' := 97) C dX4_file_94 (by first | assumption | exact rfl | exact al13 rfl | exact Nat.le_of_ble_eq_true rfl) rfl ?_
              refine g_iload_n (pc' := 98) C dX4_file_97 rfl rfl ?_
              refine g_iast (pc' := 99) C (M) (by rw [upI_at, if_neg (by omega)]; exact hM) hMlt dX4_file_98 (by first | assumption | exact rfl | exact al13 rfl | exact Nat.le_of_ble_eq_true rfl) (fun _ => rfl) rfl rfl ?_
              refine g_aload_n (pc' := 100) C dX4_file_99 rfl rfl ?_
              refine f_X4_26 (pc' := 103) C dX4_file_100 (by first | assumption | exact rfl | exact al13 rfl | exact Nat.le_of_ble_eq_true rfl) rfl ?_
              refine g_aload_n (pc' := 104) C dX4_file_103 rfl rfl ?_
              refine f_X4_75 (pc' := 107) C dX4_file_104 (by first | assumption | exact rfl | exact al13 rfl | exact Nat.le_of_ble_eq_true rfl) rfl ?_
              refine g_iload_n (pc' := 108) C dX4_file_107 rfl rfl ?_
              refine g_iast (pc' := 109) C (M) (by simp only [upI_at]; simpa using hM) hMlt dX4_file_108 (by first | assumption | exact rfl | exact al13 rfl | exact Nat.le_of_ble_eq_true rfl) (fun _ => rfl) rfl rfl ?_
              refine g_aload_n (pc' := 110) C dX4_file_109 rfl rfl ?_
              refine f_X4_29 (pc' := 113) C dX4_file_110 (by first | assumption | exact rfl | exact al13 rfl | exact Nat.le_of_ble_eq_true rfl) rfl ?_
              refine g_aload_n (pc' := 114) C dX4_file_113 rfl rfl ?_
              refine f_X4_75 (pc' := 117) C dX4_file_114 (by first | assumption | exact rfl | exact al13 rfl | exact Nat.le_of_ble_eq_true rfl) rfl ?_
              refine g_iload_n (pc' := 118) C dX4_file_117 rfl rfl ?_
              refine g_iast (pc' := 119) C (M) (by simp only [upI_at]; simpa using hM) hMlt dX4_file_118 (by first | assumption | exact rfl | exact al13 rfl | exact Nat.le_of_ble_eq_true rfl) (fun _ => rfl) rfl rfl ?_
              refine g_aload_n (pc' := 120) C dX4_file_119 rfl rfl ?_
              refine f_X4_32 (pc' := 123) C dX4_file_120 (by first | assumption | exact rfl | exact al13 rfl | exact Nat.le_of_ble_eq_true rfl) rfl ?_
              refine g_aload_n (pc' := 124) C dX4_file_123 rfl rfl ?_
              refine f_X4_75 (pc' := 127) C dX4_file_124 (by first | assumption | exact rfl | exact al13 rfl | exact Nat.le_of_ble_eq_true rfl) rfl ?_
              refine g_iload (pc' := 129) C dX4_file_127 rfl rfl ?_
              refine g_iast (pc' := 130) C (M) (by simp only [upI_at]; simpa using hM) hMlt dX4_file_129 (by first | assumption | exact rfl | exact al13 rfl | exact Nat.le_of_ble_eq_true rfl) (fun _ => rfl) rfl rfl ?_
              refine g_aload_n (pc' := 131) C dX4_file_130 rfl rfl ?_
              refine f_X4_35 (pc' := 134) C dX4_file_131 (by first | assumption | exact rfl | exact al13 rfl | exact Nat.le_of_ble_eq_true rfl) rfl ?_
              refine g_aload_n (pc' := 135) C dX4_file_134 rfl rfl ?_
              refine f_X4_75 (pc' := 138) C dX4_file_135 (by first | assumption | exact rfl | exact al13 rfl | exact Nat.le_of_ble_eq_true rfl) rfl ?_
              refine g_aload_n (pc' := 139) C dX4_file_138 rfl rfl ?_
              refine f_X4_16 (pc' := 142) C dX4_file_139 (by first | assumption | exact rfl | exact al13 rfl | exact Nat.le_of_ble_eq_true rfl) rfl ?_
              refine g_iload_n (pc' := 143) C dX4_file_142 rfl rfl ?_
              refine g_zald (pc' := 144) C (j) hj hjb dX4_file_143 (by first | assumption | exact rfl | exact al13 rfl | exact Nat.le_of_ble_eq_true rfl) rfl rfl rfl ?_
              refine g_if_eq (tgt := 151) (pc' := 147) C dX4_file_144 (by decide) rfl (fun c17 => ?_) (fun c17 => ?_)
              ·
                try simp [upI_at] at c17
                refine g_bipush (v := (-50)) (pc' := 153) C dX4_file_151 (by decide) rfl ?_
                refine g_iast (pc' := 154) C (M) (by simp only [upI_at]; simpa using hM) hMlt dX4_file_153 (by first | assumption | exact rfl | exact al13 rfl | exact Nat.le_of_ble_eq_true rfl) (fun _ => rfl) rfl rfl ?_
                refine g_aload_n (pc' := 155) C dX4_file_154 rfl rfl ?_
                refine f_X4_38 (pc' := 158) C dX4_file_155 (by first | assumption | exact rfl | exact al13 rfl | exact Nat.le_of_ble_eq_true rfl) rfl ?_
                refine g_aload_n (pc' := 159) C dX4_file_158 rfl rfl ?_
                refine f_X4_75 (pc' := 162) C dX4_file_159 (by first | assumption | exact rfl | exact al13 rfl | exact Nat.le_of_ble_eq_true rfl) rfl ?_
                refine g_aload_n (pc' := 163) C dX4_file_162 rfl rfl ?_
                refine f_X4_85 (pc' := 166) C dX4_file_163 (by first | assumption | exact rfl | exact al13 rfl | exact Nat.le_of_ble_eq_true rfl) rfl ?_
                refine g_bipush (v := 100) (pc' := 168) C dX4_file_166 (by decide) rfl ?_
                refine g_iadd (pc' := 169) C dX4_file_168 rfl ?_
                refine g_iast (pc' := 170) C (M) (by simp only [upI_at]; simpa using hM) hMlt dX4_file_169 (by first | assumption | exact rfl | exact al13 rfl | exact Nat.le_of_ble_eq_true rfl) (fun _ => rfl) rfl rfl ?_
                refine g_aload_n (pc' := 171) C dX4_file_170 rfl rfl ?_
                refine g_dup (pc' := 172) C dX4_file_171 rfl rfl ?_
                refine f_X4_75 (pc' := 175) C dX4_file_172 (by first | assumption | exact rfl | exact al13 rfl | exact Nat.le_of_ble_eq_true rfl) rfl ?_
                refine g_iconst (v := 1) (pc' := 176) C dX4_file_175 (by decide) rfl ?_
                refine g_iadd (pc' := 177) C dX4_file_176 rfl ?_
                refine p_X4_75 (pc' := 180) C dX4_file_177 (by first | assumption | exact rfl | exact al13 rfl | exact Nat.le_of_ble_eq_true rfl) rfl ?_
                refine g_aload_n (pc' := 181) C dX4_file_180 rfl rfl ?_
                refine f_X4_75 (pc' := 184) C dX4_file_181 (by first | assumption | exact rfl | exact al13 rfl | exact Nat.le_of_ble_eq_true rfl) rfl ?_
                refine g_iconst (v := 1) (pc' := 185) C dX4_file_184 (by decide) rfl ?_
                refine g_isub (pc' := 186) C dX4_file_185 rfl ?_
                exact g_iret C hR dX4_file_186 ⟨by simp [mO2, mK2, th, upI_at, hM, nI_1, nI_pred, c1, c4, c7, c10, c13, c14, hMe, c16, hcl, c17], by simp [mO2, mK2, th, upI_at, hM, nI_1, c1, c4, c7, c10, c13, c14, hMe, c16, hcl, c17], rfl⟩
              ·
                try simp [upI_at] at c17
                refine g_iconst (v := 0) (pc' := 148) C dX4_file_147 (by decide) rfl ?_
                refine g_goto (tgt := 153) C dX4_file_148 (by decide) ?_
                refine g_iast (pc' := 154) C (M) (by simp only [upI_at]; simpa using hM) hMlt dX4_file_153 (by first | assumption | exact rfl | exact al13 rfl | exact Nat.le_of_ble_eq_true rfl) (fun _ => rfl) rfl rfl ?_
                refine g_aload_n (pc' := 155) C dX4_file_154 rfl rfl ?_
                refine f_X4_38 (pc' := 158) C dX4_file_155 (by first | assumption | exact rfl | exact al13 rfl | exact Nat.le_of_ble_eq_true rfl) rfl ?_
                refine g_aload_n (pc' := 159) C dX4_file_158 rfl rfl ?_
                refine f_X4_75 (pc' := 162) C dX4_file_159 (by first | assumption | exact rfl | exact al13 rfl | exact Nat.le_of_ble_eq_true rfl) rfl ?_
                refine g_aload_n (pc' := 163) C dX4_file_162 rfl rfl ?_
                refine f_X4_85 (pc' := 166) C dX4_file_163 (by first | assumption | exact rfl | exact al13 rfl | exact Nat.le_of_ble_eq_true rfl) rfl ?_
                refine g_bipush (v := 100) (pc' := 168) C dX4_file_166 (by decide) rfl ?_
                refine g_iadd (pc' := 169) C dX4_file_168 rfl ?_
                refine g_iast (pc' := 170) C (M) (by simp only [upI_at]; simpa using hM) hMlt dX4_file_169 (by first | assumption | exact rfl | exact al13 rfl | exact Nat.le_of_ble_eq_true rfl) (fun _ => rfl) rfl rfl ?_
                refine g_aload_n (pc' := 171) C dX4_file_170 rfl rfl ?_
                refine g_dup (pc' := 172) C dX4_file_171 rfl rfl ?_
                refine f_X4_75 (pc' := 175) C dX4_file_172 (by first | assumption | exact rfl | exact al13 rfl | exact Nat.le_of_ble_eq_true rfl) rfl ?_
                refine g_iconst (v := 1) (pc' := 176) C dX4_file_175 (by decide) rfl ?_
                refine g_iadd (pc' := 177) C dX4_file_176 rfl ?_
                refine p_X4_75 (pc' := 180) C dX4_file_177 (by first | assumption | exact rfl | exact al13 rfl | exact Nat.le_of_ble_eq_true rfl) rfl ?_
                refine g_aload_n (pc' := 181) C dX4_file_180 rfl rfl ?_
                refine f_X4_75 (pc' := 184) C dX4_file_181 (by first | assumption | exact rfl | exact al13 rfl | exact Nat.le_of_ble_eq_true rfl) rfl ?_
                refine g_iconst (v := 1) (pc' := 185) C dX4_file_184 (by decide) rfl ?_
                refine g_isub (pc' := 186) C dX4_file_185 rfl ?_
                exact g_iret C hR dX4_file_186 ⟨by simp [mO2, mK2, th, upI_at, hM, nI_1, nI_pred, c1, c4, c7, c10, c13, c14, hMe, c16, hcl, c17], by simp [mO2, mK2, th, upI_at, hM, nI_1, c1, c4, c7, c10, c13, c14, hMe, c16, hcl, c17], rfl⟩
          ·
            refine g_iconst (v := 2) (pc' := 60) C dX4_file_59 (by decide) rfl ?_
            refine g_goto (tgt := 77) C dX4_file_60 (by decide) ?_
            refine p_X4_71 (pc' := 80) C dX4_file_77 (by first | assumption | exact rfl | exact al13 rfl | exact Nat.le_of_ble_eq_true rfl) rfl ?_
            refine g_aload_n (pc' := 81) C dX4_file_80 rfl rfl ?_
            refine f_X4_71 (pc' := 84) C dX4_file_81 (by first | assumption | exact rfl | exact al13 rfl | exact Nat.le_of_ble_eq_true rfl) rfl ?_
            refine g_if_le (tgt := 89) (pc' := 87) C dX4_file_84 (by decide) rfl (fun c18 => absurd c18 (by first | decide | rw [thv]; decide)) (fun c18 => ?_)
            refine g_iconst (v := 0) (pc' := 88) C dX4_file_87 (by decide) rfl ?_
            exact g_iret C hR dX4_file_88 ⟨by simp [mO2, mK2, th, c1, c4, c7, c10, c13, c14, c18], by simp [mO2, mK2, th, c1, c4, c7, c10, c13, c14, c18], rfl⟩
set_option maxRecDepth 20000 in
theorem m_X4_pay {l : Launch} {g : wG} {z : wZ} {I : wI} {P : wP} {O : wO} {M N : Nat} {x y : Int32} (X : MI M N I) : RT l yX4_pay cX4_pay 3 ((some .int)) { frames := 2, cells := 0, slots := 0, locals := 43 } g z [.ref (g.2.2 12 0), .int x, .int y] I P O (dp (some (.int (mO3 I M x y).2)) ((mO3 I M x y).1) (P)) := by
  refine RT.of (own := RX4) rfl (by decide +kernel) (Nat.le_of_ble_eq_true rfl) rfl (fun K C hl hg hR => ?_)
  subst hl
  subst hg
  refine g_aload_n (pc' := 1) C dX4_pay_0 rfl rfl ?_
  refine g_aload_n (pc' := 2) C dX4_pay_1 rfl rfl ?_
  refine g_iload_n (pc' := 3) C dX4_pay_2 rfl rfl ?_
  rcases in_of x M (by have := X.1; have := X.2.1; omega) with ⟨j, hj, hxj⟩ | hx
  · have hn : oM x M = false := oM_F hj hxj (by have := X.1; have := X.2.1; omega)
    have hcl : x.toNatClampNeg = j := by rw [hxj]; exact nI_clamp (by have := X.1; have := X.2.1; omega)
    have hcap : j < 12 := by have := X.1; have := X.2.1; omega
    refine k_X4_88 (pc' := 6) C (m_X4_isMatterS X hxj hj) dX4_pay_3 (by first | assumption | exact rfl | exact al13 rfl | exact Nat.le_of_ble_eq_true rfl) ⟨⟨Nat.le_of_ble_eq_true rfl, Nat.le_of_ble_eq_true rfl⟩, rfl, rfl⟩ (Nat.le_of_ble_eq_true rfl) ⟨Nat.zero_le _, Nat.zero_le _⟩ rfl ?_
    refine g_if_ne (tgt := 13) (pc' := 9) C dX4_pay_6 (by decide) rfl (fun c1 => ?_) (fun c1 => absurd c1 (by first | decide | rw [thv]; decide))
    refine g_iload_n (pc' := 14) C dX4_pay_13 rfl rfl ?_
    refine g_iconst (v := 1) (pc' := 15) C dX4_pay_14 (by decide) rfl ?_
    refine g_sipush (v := 9999) (pc' := 18) C dX4_pay_15 (by decide) rfl ?_
    refine k_X4_78 (pc' := 21) C (m_X4_in) dX4_pay_18 ⟨⟨Nat.le_of_ble_eq_true rfl, Nat.le_of_ble_eq_true rfl⟩, rfl, rfl⟩ (Nat.le_of_ble_eq_true rfl) ⟨Nat.zero_le _, Nat.zero_le _⟩ rfl ?_
    refine g_if_ne (tgt := 28) (pc' := 24) C dX4_pay_21 (by decide) rfl (fun c2 => ?_) (fun c2 => ?_)
    ·
      have c2 := b2_1.mp c2
      refine g_iconst (v := 0) (pc' := 29) C dX4_pay_28 (by decide) rfl ?_
      refine p_X4_71 (pc' := 32) C dX4_pay_29 (by first | assumption | exact rfl | exact al13 rfl | exact Nat.le_of_ble_eq_true rfl) rfl ?_
      refine g_aload_n (pc' := 33) C dX4_pay_32 rfl rfl ?_
      refine f_X4_71 (pc' := 36) C dX4_pay_33 (by first | assumption | exact rfl | exact al13 rfl | exact Nat.le_of_ble_eq_true rfl) rfl ?_
      refine g_if_le (tgt := 41) (pc' := 39) C dX4_pay_36 (by decide) rfl (fun c3 => ?_) (fun c3 => absurd (by first | decide | rw [thv]; decide) c3)
      refine g_aload_n (pc' := 42) C dX4_pay_41 rfl rfl ?_
      refine f_X4_35 (pc' := 45) C dX4_pay_42 (by first | assumption | exact rfl | exact al13 rfl | exact Nat.le_of_ble_eq_true rfl) rfl ?_
      refine g_iload_n (pc' := 46) C dX4_pay_45 rfl rfl ?_
      refine g_dup2 (pc' := 47) C dX4_pay_46 rfl rfl rfl ?_
      refine g_iald (pc' := 48) C (j) hxj hcap dX4_pay_47 (by first | assumption | exact rfl | exact al13 rfl | exact Nat.le_of_ble_eq_true rfl) rfl rfl rfl ?_
      refine g_iload_n (pc' := 49) C dX4_pay_48 rfl rfl ?_
      refine g_iadd (pc' := 50) C dX4_pay_49 rfl ?_
      refine g_iast (pc' := 51) C (j) hxj hcap dX4_pay_50 (by first | assumption | exact rfl | exact al13 rfl | exact Nat.le_of_ble_eq_true rfl) (fun _ => rfl) rfl rfl ?_
      refine g_aload_n (pc' := 52) C dX4_pay_51 rfl rfl ?_
      refine f_X4_35 (pc' := 55) C dX4_pay_52 (by first | assumption | exact rfl | exact al13 rfl | exact Nat.le_of_ble_eq_true rfl) rfl ?_
      refine g_iload_n (pc' := 56) C dX4_pay_55 rfl rfl ?_
      refine g_iald (pc' := 57) C (j) hxj hcap dX4_pay_56 (by first | assumption | exact rfl | exact al13 rfl | exact Nat.le_of_ble_eq_true rfl) rfl rfl rfl ?_
      exact g_iret C hR dX4_pay_57 ⟨by simp [mO3, mK3, th, upI_at, hn, hcl, c1, c2, c3], by simp [mO3, mK3, th, upI_at, hn, hcl, c1, c2, c3], rfl⟩
    ·
      have c2 := b2_0.mp c2
      refine g_iconst (v := 2) (pc' := 25) C dX4_pay_24 (by decide) rfl ?_
      refine g_goto (tgt := 29) C dX4_pay_25 (by decide) ?_
      refine p_X4_71 (pc' := 32) C dX4_pay_29 (by first | assumption | exact rfl | exact al13 rfl | exact Nat.le_of_ble_eq_true rfl) rfl ?_
      refine g_aload_n (pc' := 33) C dX4_pay_32 rfl rfl ?_
      refine f_X4_71 (pc' := 36) C dX4_pay_33 (by first | assumption | exact rfl | exact al13 rfl | exact Nat.le_of_ble_eq_true rfl) rfl ?_
      refine g_if_le (tgt := 41) (pc' := 39) C dX4_pay_36 (by decide) rfl (fun c4 => absurd c4 (by first | decide | rw [thv]; decide)) (fun c4 => ?_)
      refine g_iconst (v := 0) (pc' := 40) C dX4_pay_39 (by decide) rfl ?_
      exact g_iret C hR dX4_pay_40 ⟨by simp [mO3, mK3, th, upI_at, hn, hcl, c1, c2, c4], by simp [mO3, mK3, th, upI_at, hn, hcl, c1, c2, c4], rfl⟩
  · have hn : oM x M = true := oM_T hx
    refine k_X4_88 (pc' := 6) C (m_X4_isMatterN X hx) dX4_pay_3 (by first | assumption | exact rfl | exact al13 rfl | exact Nat.le_of_ble_eq_true rfl) ⟨⟨Nat.le_of_ble_eq_true rfl, Nat.le_of_ble_eq_true rfl⟩, rfl, rfl⟩ (Nat.le_of_ble_eq_true rfl) ⟨Nat.zero_le _, Nat.zero_le _⟩ rfl ?_
    refine g_if_ne (tgt := 13) (pc' := 9) C dX4_pay_6 (by decide) rfl (fun c5 => absurd (by first | decide | rw [thv]; decide) c5) (fun c5 => ?_)
    refine g_iconst (v := 1) (pc' := 10) C dX4_pay_9 (by decide) rfl ?_
    refine g_goto (tgt := 29) C dX4_pay_10 (by decide) ?_
    refine p_X4_71 (pc' := 32) C dX4_pay_29 (by first | assumption | exact rfl | exact al13 rfl | exact Nat.le_of_ble_eq_true rfl) rfl ?_
    refine g_aload_n (pc' := 33) C dX4_pay_32 rfl rfl ?_
    refine f_X4_71 (pc' := 36) C dX4_pay_33 (by first | assumption | exact rfl | exact al13 rfl | exact Nat.le_of_ble_eq_true rfl) rfl ?_
    refine g_if_le (tgt := 41) (pc' := 39) C dX4_pay_36 (by decide) rfl (fun c6 => absurd c6 (by first | decide | rw [thv]; decide)) (fun c6 => ?_)
    refine g_iconst (v := 0) (pc' := 40) C dX4_pay_39 (by decide) rfl ?_
    exact g_iret C hR dX4_pay_40 ⟨by simp [mO3, mK3, th, upI_at, hn, c5, c6], by simp [mO3, mK3, th, upI_at, hn, c5, c6], rfl⟩
set_option maxRecDepth 20000 in
theorem m_X4_settle {l : Launch} {g : wG} {z : wZ} {I : wI} {P : wP} {O : wO} {M N : Nat} {x y : Int32} (X : MI M N I) : RT l yX4_settle cX4_settle 3 ((some .int)) { frames := 2, cells := 0, slots := 0, locals := 43 } g z [.ref (g.2.2 12 0), .int x, .int y] I P O (dp (some (.int (mO6 I M x y).2)) ((mO6 I M x y).1) (P)) := by
  refine RT.of (own := RX4) rfl (by decide +kernel) (Nat.le_of_ble_eq_true rfl) rfl (fun K C hl hg hR => ?_)
  subst hl
  subst hg
  refine g_aload_n (pc' := 1) C dX4_settle_0 rfl rfl ?_
  refine g_aload_n (pc' := 2) C dX4_settle_1 rfl rfl ?_
  refine g_iload_n (pc' := 3) C dX4_settle_2 rfl rfl ?_
  rcases in_of x M (by have := X.1; have := X.2.1; omega) with ⟨j, hj, hxj⟩ | hx
  · have hn : oM x M = false := oM_F hj hxj (by have := X.1; have := X.2.1; omega)
    have hcl : x.toNatClampNeg = j := by rw [hxj]; exact nI_clamp (by have := X.1; have := X.2.1; omega)
    have hcap : j < 12 := by have := X.1; have := X.2.1; omega
    refine k_X4_88 (pc' := 6) C (m_X4_isMatterS X hxj hj) dX4_settle_3 (by first | assumption | exact rfl | exact al13 rfl | exact Nat.le_of_ble_eq_true rfl) ⟨⟨Nat.le_of_ble_eq_true rfl, Nat.le_of_ble_eq_true rfl⟩, rfl, rfl⟩ (Nat.le_of_ble_eq_true rfl) ⟨Nat.zero_le _, Nat.zero_le _⟩ rfl ?_
    refine g_if_ne (tgt := 13) (pc' := 9) C dX4_settle_6 (by decide) rfl (fun c1 => ?_) (fun c1 => absurd c1 (by first | decide | rw [thv]; decide))
    refine g_aload_n (pc' := 14) C dX4_settle_13 rfl rfl ?_
    refine f_X4_20 (pc' := 17) C dX4_settle_14 (by first | assumption | exact rfl | exact al13 rfl | exact Nat.le_of_ble_eq_true rfl) rfl ?_
    refine g_iload_n (pc' := 18) C dX4_settle_17 rfl rfl ?_
    refine g_iald (pc' := 19) C (j) hxj hcap dX4_settle_18 (by first | assumption | exact rfl | exact al13 rfl | exact Nat.le_of_ble_eq_true rfl) rfl rfl rfl ?_
    refine g_iconst (v := 3) (pc' := 20) C dX4_settle_19 (by decide) rfl ?_
    refine g_icmp_eq (tgt := 27) (pc' := 23) C dX4_settle_20 (by decide) rfl (fun c2 => ?_) (fun c2 => ?_)
    ·
      refine g_iconst (v := 0) (pc' := 28) C dX4_settle_27 (by decide) rfl ?_
      refine p_X4_71 (pc' := 31) C dX4_settle_28 (by first | assumption | exact rfl | exact al13 rfl | exact Nat.le_of_ble_eq_true rfl) rfl ?_
      refine g_aload_n (pc' := 32) C dX4_settle_31 rfl rfl ?_
      refine f_X4_71 (pc' := 35) C dX4_settle_32 (by first | assumption | exact rfl | exact al13 rfl | exact Nat.le_of_ble_eq_true rfl) rfl ?_
      refine g_if_le (tgt := 40) (pc' := 38) C dX4_settle_35 (by decide) rfl (fun c3 => ?_) (fun c3 => absurd (by first | decide | rw [thv]; decide) c3)
      refine g_aload_n (pc' := 41) C dX4_settle_40 rfl rfl ?_
      refine f_X4_20 (pc' := 44) C dX4_settle_41 (by first | assumption | exact rfl | exact al13 rfl | exact Nat.le_of_ble_eq_true rfl) rfl ?_
      refine g_iload_n (pc' := 45) C dX4_settle_44 rfl rfl ?_
      refine g_iload_n (pc' := 46) C dX4_settle_45 rfl rfl ?_
      refine g_if_eq (tgt := 53) (pc' := 49) C dX4_settle_46 (by decide) rfl (fun c4 => ?_) (fun c4 => ?_)
      ·
        refine g_iconst (v := 2) (pc' := 54) C dX4_settle_53 (by decide) rfl ?_
        refine g_iast (pc' := 55) C (j) hxj hcap dX4_settle_54 (by first | assumption | exact rfl | exact al13 rfl | exact Nat.le_of_ble_eq_true rfl) (fun _ => rfl) rfl rfl ?_
        refine g_aload_n (pc' := 56) C dX4_settle_55 rfl rfl ?_
        refine f_X4_38 (pc' := 59) C dX4_settle_56 (by first | assumption | exact rfl | exact al13 rfl | exact Nat.le_of_ble_eq_true rfl) rfl ?_
        refine g_iload_n (pc' := 60) C dX4_settle_59 rfl rfl ?_
        refine g_iald (pc' := 61) C (j) hxj hcap dX4_settle_60 (by first | assumption | exact rfl | exact al13 rfl | exact Nat.le_of_ble_eq_true rfl) rfl rfl rfl ?_
        exact g_iret C hR dX4_settle_61 ⟨by simp [mO6, mKs, th, upI_at, hn, hcl, c1, c2, c3, c4], by simp [mO6, mKs, th, upI_at, hn, hcl, c1, c2, c3, c4], rfl⟩
      ·
        refine g_iconst (v := 0) (pc' := 50) C dX4_settle_49 (by decide) rfl ?_
        refine g_goto (tgt := 54) C dX4_settle_50 (by decide) ?_
        refine g_iast (pc' := 55) C (j) hxj hcap dX4_settle_54 (by first | assumption | exact rfl | exact al13 rfl | exact Nat.le_of_ble_eq_true rfl) (fun _ => rfl) rfl rfl ?_
        refine g_aload_n (pc' := 56) C dX4_settle_55 rfl rfl ?_
        refine f_X4_38 (pc' := 59) C dX4_settle_56 (by first | assumption | exact rfl | exact al13 rfl | exact Nat.le_of_ble_eq_true rfl) rfl ?_
        refine g_iload_n (pc' := 60) C dX4_settle_59 rfl rfl ?_
        refine g_iald (pc' := 61) C (j) hxj hcap dX4_settle_60 (by first | assumption | exact rfl | exact al13 rfl | exact Nat.le_of_ble_eq_true rfl) rfl rfl rfl ?_
        exact g_iret C hR dX4_settle_61 ⟨by simp [mO6, mKs, th, upI_at, hn, hcl, c1, c2, c3, c4], by simp [mO6, mKs, th, upI_at, hn, hcl, c1, c2, c3, c4], rfl⟩
    ·
      refine g_iconst (v := 2) (pc' := 24) C dX4_settle_23 (by decide) rfl ?_
      refine g_goto (tgt := 28) C dX4_settle_24 (by decide) ?_
      refine p_X4_71 (pc' := 31) C dX4_settle_28 (by first | assumption | exact rfl | exact al13 rfl | exact Nat.le_of_ble_eq_true rfl) rfl ?_
      refine g_aload_n (pc' := 32) C dX4_settle_31 rfl rfl ?_
      refine f_X4_71 (pc' := 35) C dX4_settle_32 (by first | assumption | exact rfl | exact al13 rfl | exact Nat.le_of_ble_eq_true rfl) rfl ?_
      refine g_if_le (tgt := 40) (pc' := 38) C dX4_settle_35 (by decide) rfl (fun c5 => absurd c5 (by first | decide | rw [thv]; decide)) (fun c5 => ?_)
      refine g_iconst (v := 0) (pc' := 39) C dX4_settle_38 (by decide) rfl ?_
      exact g_iret C hR dX4_settle_39 ⟨by simp [mO6, mKs, th, upI_at, hn, hcl, c1, c2, c5], by simp [mO6, mKs, th, upI_at, hn, hcl, c1, c2, c5], rfl⟩
  · have hn : oM x M = true := oM_T hx
    refine k_X4_88 (pc' := 6) C (m_X4_isMatterN X hx) dX4_settle_3 (by first | assumption | exact rfl | exact al13 rfl | exact Nat.le_of_ble_eq_true rfl) ⟨⟨Nat.le_of_ble_eq_true rfl, Nat.le_of_ble_eq_true rfl⟩, rfl, rfl⟩ (Nat.le_of_ble_eq_true rfl) ⟨Nat.zero_le _, Nat.zero_le _⟩ rfl ?_
    refine g_if_ne (tgt := 13) (pc' := 9) C dX4_settle_6 (by decide) rfl (fun c6 => absurd (by first | decide | rw [thv]; decide) c6) (fun c6 => ?_)
    refine g_iconst (v := 1) (pc' := 10) C dX4_settle_9 (by decide) rfl ?_
    refine g_goto (tgt := 28) C dX4_settle_10 (by decide) ?_
    refine p_X4_71 (pc' := 31) C dX4_settle_28 (by first | assumption | exact rfl | exact al13 rfl | exact Nat.le_of_ble_eq_true rfl) rfl ?_
    refine g_aload_n (pc' := 32) C dX4_settle_31 rfl rfl ?_
    refine f_X4_71 (pc' := 35) C dX4_settle_32 (by first | assumption | exact rfl | exact al13 rfl | exact Nat.le_of_ble_eq_true rfl) rfl ?_
    refine g_if_le (tgt := 40) (pc' := 38) C dX4_settle_35 (by decide) rfl (fun c7 => absurd c7 (by first | decide | rw [thv]; decide)) (fun c7 => ?_)
    refine g_iconst (v := 0) (pc' := 39) C dX4_settle_38 (by decide) rfl ?_
    exact g_iret C hR dX4_settle_39 ⟨by simp [mO6, mKs, th, upI_at, hn, c6, c7], by simp [mO6, mKs, th, upI_at, hn, c6, c7], rfl⟩
set_option maxRecDepth 20000 in
theorem m_X4_close {l : Launch} {g : wG} {z : wZ} {I : wI} {P : wP} {O : wO} {M N : Nat} {x : Int32} (X : MI M N I) : RT l yX4_close cX4_close 2 ((some .int)) { frames := 2, cells := 0, slots := 0, locals := 43 } g z [.ref (g.2.2 12 0), .int x] I P O (dp (some (.int (mO7 I M x).2)) ((mO7 I M x).1) (P)) := by
  refine RT.of (own := RX4) rfl (by decide +kernel) (Nat.le_of_ble_eq_true rfl) rfl (fun K C hl hg hR => ?_)
  subst hl
  subst hg
  refine g_aload_n (pc' := 1) C dX4_close_0 rfl rfl ?_
  refine g_aload_n (pc' := 2) C dX4_close_1 rfl rfl ?_
  refine g_iload_n (pc' := 3) C dX4_close_2 rfl rfl ?_
  rcases in_of x M (by have := X.1; have := X.2.1; omega) with ⟨j, hj, hxj⟩ | hx
  · have hn : oM x M = false := oM_F hj hxj (by have := X.1; have := X.2.1; omega)
    have hcl : x.toNatClampNeg = j := by rw [hxj]; exact nI_clamp (by have := X.1; have := X.2.1; omega)
    have hcap : j < 12 := by have := X.1; have := X.2.1; omega
    refine k_X4_88 (pc' := 6) C (m_X4_isMatterS X hxj hj) dX4_close_3 (by first | assumption | exact rfl | exact al13 rfl | exact Nat.le_of_ble_eq_true rfl) ⟨⟨Nat.le_of_ble_eq_true rfl, Nat.le_of_ble_eq_true rfl⟩, rfl, rfl⟩ (Nat.le_of_ble_eq_true rfl) ⟨Nat.zero_le _, Nat.zero_le _⟩ rfl ?_
    refine g_if_ne (tgt := 13) (pc' := 9) C dX4_close_6 (by decide) rfl (fun c1 => ?_) (fun c1 => absurd c1 (by first | decide | rw [thv]; decide))
    refine g_aload_n (pc' := 14) C dX4_close_13 rfl rfl ?_
    refine f_X4_20 (pc' := 17) C dX4_close_14 (by first | assumption | exact rfl | exact al13 rfl | exact Nat.le_of_ble_eq_true rfl) rfl ?_
    refine g_iload_n (pc' := 18) C dX4_close_17 rfl rfl ?_
    refine g_iald (pc' := 19) C (j) hxj hcap dX4_close_18 (by first | assumption | exact rfl | exact al13 rfl | exact Nat.le_of_ble_eq_true rfl) rfl rfl rfl ?_
    refine g_iconst (v := 2) (pc' := 20) C dX4_close_19 (by decide) rfl ?_
    refine g_icmp_eq (tgt := 27) (pc' := 23) C dX4_close_20 (by decide) rfl (fun c2 => ?_) (fun c2 => ?_)
    ·
      refine g_iconst (v := 0) (pc' := 28) C dX4_close_27 (by decide) rfl ?_
      refine p_X4_71 (pc' := 31) C dX4_close_28 (by first | assumption | exact rfl | exact al13 rfl | exact Nat.le_of_ble_eq_true rfl) rfl ?_
      refine g_aload_n (pc' := 32) C dX4_close_31 rfl rfl ?_
      refine f_X4_71 (pc' := 35) C dX4_close_32 (by first | assumption | exact rfl | exact al13 rfl | exact Nat.le_of_ble_eq_true rfl) rfl ?_
      refine g_if_le (tgt := 40) (pc' := 38) C dX4_close_35 (by decide) rfl (fun c3 => ?_) (fun c3 => absurd (by first | decide | rw [thv]; decide) c3)
      refine g_aload_n (pc' := 41) C dX4_close_40 rfl rfl ?_
      refine f_X4_20 (pc' := 44) C dX4_close_41 (by first | assumption | exact rfl | exact al13 rfl | exact Nat.le_of_ble_eq_true rfl) rfl ?_
      refine g_iload_n (pc' := 45) C dX4_close_44 rfl rfl ?_
      refine g_iconst (v := 4) (pc' := 46) C dX4_close_45 (by decide) rfl ?_
      refine g_iast (pc' := 47) C (j) hxj hcap dX4_close_46 (by first | assumption | exact rfl | exact al13 rfl | exact Nat.le_of_ble_eq_true rfl) (fun _ => rfl) rfl rfl ?_
      refine g_aload_n (pc' := 48) C dX4_close_47 rfl rfl ?_
      refine f_X4_35 (pc' := 51) C dX4_close_48 (by first | assumption | exact rfl | exact al13 rfl | exact Nat.le_of_ble_eq_true rfl) rfl ?_
      refine g_iload_n (pc' := 52) C dX4_close_51 rfl rfl ?_
      refine g_iald (pc' := 53) C (j) hxj hcap dX4_close_52 (by first | assumption | exact rfl | exact al13 rfl | exact Nat.le_of_ble_eq_true rfl) rfl rfl rfl ?_
      exact g_iret C hR dX4_close_53 ⟨by simp [mO7, mKs, th, upI_at, hn, hcl, c1, c2, c3], by simp [mO7, mKs, th, upI_at, hn, hcl, c1, c2, c3], rfl⟩
    ·
      refine g_iconst (v := 2) (pc' := 24) C dX4_close_23 (by decide) rfl ?_
      refine g_goto (tgt := 28) C dX4_close_24 (by decide) ?_
      refine p_X4_71 (pc' := 31) C dX4_close_28 (by first | assumption | exact rfl | exact al13 rfl | exact Nat.le_of_ble_eq_true rfl) rfl ?_
      refine g_aload_n (pc' := 32) C dX4_close_31 rfl rfl ?_
      refine f_X4_71 (pc' := 35) C dX4_close_32 (by first | assumption | exact rfl | exact al13 rfl | exact Nat.le_of_ble_eq_true rfl) rfl ?_
      refine g_if_le (tgt := 40) (pc' := 38) C dX4_close_35 (by decide) rfl (fun c4 => absurd c4 (by first | decide | rw [thv]; decide)) (fun c4 => ?_)
      refine g_iconst (v := 0) (pc' := 39) C dX4_close_38 (by decide) rfl ?_
      exact g_iret C hR dX4_close_39 ⟨by simp [mO7, mKs, th, upI_at, hn, hcl, c1, c2, c4], by simp [mO7, mKs, th, upI_at, hn, hcl, c1, c2, c4], rfl⟩
  · have hn : oM x M = true := oM_T hx
    refine k_X4_88 (pc' := 6) C (m_X4_isMatterN X hx) dX4_close_3 (by first | assumption | exact rfl | exact al13 rfl | exact Nat.le_of_ble_eq_true rfl) ⟨⟨Nat.le_of_ble_eq_true rfl, Nat.le_of_ble_eq_true rfl⟩, rfl, rfl⟩ (Nat.le_of_ble_eq_true rfl) ⟨Nat.zero_le _, Nat.zero_le _⟩ rfl ?_
    refine g_if_ne (tgt := 13) (pc' := 9) C dX4_close_6 (by decide) rfl (fun c5 => absurd (by first | decide | rw [thv]; decide) c5) (fun c5 => ?_)
    refine g_iconst (v := 1) (pc' := 10) C dX4_close_9 (by decide) rfl ?_
    refine g_goto (tgt := 28) C dX4_close_10 (by decide) ?_
    refine p_X4_71 (pc' := 31) C dX4_close_28 (by first | assumption | exact rfl | exact al13 rfl | exact Nat.le_of_ble_eq_true rfl) rfl ?_
    refine g_aload_n (pc' := 32) C dX4_close_31 rfl rfl ?_
    refine f_X4_71 (pc' := 35) C dX4_close_32 (by first | assumption | exact rfl | exact al13 rfl | exact Nat.le_of_ble_eq_true rfl) rfl ?_
    refine g_if_le (tgt := 40) (pc' := 38) C dX4_close_35 (by decide) rfl (fun c6 => absurd c6 (by first | decide | rw [thv]; decide)) (fun c6 => ?_)
    refine g_iconst (v := 0) (pc' := 39) C dX4_close_38 (by decide) rfl ?_
    exact g_iret C hR dX4_close_39 ⟨by simp [mO7, mKs, th, upI_at, hn, c5, c6], by simp [mO7, mKs, th, upI_at, hn, c5, c6], rfl⟩
set_option maxRecDepth 20000 in
theorem m_X4_appeal {l : Launch} {g : wG} {z : wZ} {I : wI} {P : wP} {O : wO} {M N : Nat} {x : Int32} (X : MI M N I) : RT l yX4_appeal cX4_appeal 2 ((some .int)) { frames := 2, cells := 0, slots := 0, locals := 43 } g z [.ref (g.2.2 12 0), .int x] I P O (dp (some (.int (mO5 I M x).2)) ((mO5 I M x).1) (P)) := by
  refine RT.of (own := RX4) rfl (by decide +kernel) (Nat.le_of_ble_eq_true rfl) rfl (fun K C hl hg hR => ?_)
  subst hl
  subst hg
  refine g_aload_n (pc' := 1) C dX4_appeal_0 rfl rfl ?_
  refine g_aload_n (pc' := 2) C dX4_appeal_1 rfl rfl ?_
  refine g_iload_n (pc' := 3) C dX4_appeal_2 rfl rfl ?_
  rcases in_of x M (by have := X.1; have := X.2.1; omega) with ⟨j, hj, hxj⟩ | hx
  · have hn : oM x M = false := oM_F hj hxj (by have := X.1; have := X.2.1; omega)
    have hcl : x.toNatClampNeg = j := by rw [hxj]; exact nI_clamp (by have := X.1; have := X.2.1; omega)
    have hcap : j < 12 := by have := X.1; have := X.2.1; omega
    refine k_X4_88 (pc' := 6) C (m_X4_isMatterS X hxj hj) dX4_appeal_3 (by first | assumption | exact rfl | exact al13 rfl | exact Nat.le_of_ble_eq_true rfl) ⟨⟨Nat.le_of_ble_eq_true rfl, Nat.le_of_ble_eq_true rfl⟩, rfl, rfl⟩ (Nat.le_of_ble_eq_true rfl) ⟨Nat.zero_le _, Nat.zero_le _⟩ rfl ?_
    refine g_if_ne (tgt := 13) (pc' := 9) C dX4_appeal_6 (by decide) rfl (fun c1 => ?_) (fun c1 => absurd c1 (by first | decide | rw [thv]; decide))
    refine g_aload_n (pc' := 14) C dX4_appeal_13 rfl rfl ?_
    refine f_X4_20 (pc' := 17) C dX4_appeal_14 (by first | assumption | exact rfl | exact al13 rfl | exact Nat.le_of_ble_eq_true rfl) rfl ?_
    refine g_iload_n (pc' := 18) C dX4_appeal_17 rfl rfl ?_
    refine g_iald (pc' := 19) C (j) hxj hcap dX4_appeal_18 (by first | assumption | exact rfl | exact al13 rfl | exact Nat.le_of_ble_eq_true rfl) rfl rfl rfl ?_
    refine g_iconst (v := 2) (pc' := 20) C dX4_appeal_19 (by decide) rfl ?_
    refine g_icmp_ne (tgt := 32) (pc' := 23) C dX4_appeal_20 (by decide) rfl (fun c2 => ?_) (fun c2 => ?_)
    ·
      refine g_iconst (v := 2) (pc' := 33) C dX4_appeal_32 (by decide) rfl ?_
      refine g_goto (tgt := 37) C dX4_appeal_33 (by decide) ?_
      refine p_X4_71 (pc' := 40) C dX4_appeal_37 (by first | assumption | exact rfl | exact al13 rfl | exact Nat.le_of_ble_eq_true rfl) rfl ?_
      refine g_aload_n (pc' := 41) C dX4_appeal_40 rfl rfl ?_
      refine f_X4_71 (pc' := 44) C dX4_appeal_41 (by first | assumption | exact rfl | exact al13 rfl | exact Nat.le_of_ble_eq_true rfl) rfl ?_
      refine g_if_le (tgt := 49) (pc' := 47) C dX4_appeal_44 (by decide) rfl (fun c3 => absurd c3 (by first | decide | rw [thv]; decide)) (fun c3 => ?_)
      refine g_iconst (v := 0) (pc' := 48) C dX4_appeal_47 (by decide) rfl ?_
      exact g_iret C hR dX4_appeal_48 ⟨by simp [mO5, mK5, mFe, th, upI_at, hn, hcl, c1, c2, c3], by simp [mO5, mK5, mFe, th, upI_at, hn, hcl, c1, c2, c3], rfl⟩
    ·
      refine g_aload_n (pc' := 24) C dX4_appeal_23 rfl rfl ?_
      refine f_X4_35 (pc' := 27) C dX4_appeal_24 (by first | assumption | exact rfl | exact al13 rfl | exact Nat.le_of_ble_eq_true rfl) rfl ?_
      refine g_iload_n (pc' := 28) C dX4_appeal_27 rfl rfl ?_
      refine g_iald (pc' := 29) C (j) hxj hcap dX4_appeal_28 (by first | assumption | exact rfl | exact al13 rfl | exact Nat.le_of_ble_eq_true rfl) rfl rfl rfl ?_
      refine g_if_ge (tgt := 36) (pc' := 32) C dX4_appeal_29 (by decide) rfl (fun c4 => ?_) (fun c4 => ?_)
      ·
        refine g_iconst (v := 0) (pc' := 37) C dX4_appeal_36 (by decide) rfl ?_
        refine p_X4_71 (pc' := 40) C dX4_appeal_37 (by first | assumption | exact rfl | exact al13 rfl | exact Nat.le_of_ble_eq_true rfl) rfl ?_
        refine g_aload_n (pc' := 41) C dX4_appeal_40 rfl rfl ?_
        refine f_X4_71 (pc' := 44) C dX4_appeal_41 (by first | assumption | exact rfl | exact al13 rfl | exact Nat.le_of_ble_eq_true rfl) rfl ?_
        refine g_if_le (tgt := 49) (pc' := 47) C dX4_appeal_44 (by decide) rfl (fun c5 => ?_) (fun c5 => absurd (by first | decide | rw [thv]; decide) c5)
        have hf := X.fs hj
        refine g_aload_n (pc' := 50) C dX4_appeal_49 rfl rfl ?_
        refine f_X4_20 (pc' := 53) C dX4_appeal_50 (by first | assumption | exact rfl | exact al13 rfl | exact Nat.le_of_ble_eq_true rfl) rfl ?_
        refine g_iload_n (pc' := 54) C dX4_appeal_53 rfl rfl ?_
        refine g_iconst (v := 3) (pc' := 55) C dX4_appeal_54 (by decide) rfl ?_
        refine g_iast (pc' := 56) C (j) hxj hcap dX4_appeal_55 (by first | assumption | exact rfl | exact al13 rfl | exact Nat.le_of_ble_eq_true rfl) (fun _ => rfl) rfl rfl ?_
        refine g_aload_n (pc' := 57) C dX4_appeal_56 rfl rfl ?_
        refine f_X4_35 (pc' := 60) C dX4_appeal_57 (by first | assumption | exact rfl | exact al13 rfl | exact Nat.le_of_ble_eq_true rfl) rfl ?_
        refine g_iload_n (pc' := 61) C dX4_appeal_60 rfl rfl ?_
        refine g_dup2 (pc' := 62) C dX4_appeal_61 rfl rfl rfl ?_
        refine g_iald (pc' := 63) C (j) hxj hcap dX4_appeal_62 (by first | assumption | exact rfl | exact al13 rfl | exact Nat.le_of_ble_eq_true rfl) rfl rfl rfl ?_
        refine g_aload_n (pc' := 64) C dX4_appeal_63 rfl rfl ?_
        refine f_X4_16 (pc' := 67) C dX4_appeal_64 (by first | assumption | exact rfl | exact al13 rfl | exact Nat.le_of_ble_eq_true rfl) rfl ?_
        refine g_aload_n (pc' := 68) C dX4_appeal_67 rfl rfl ?_
        refine f_X4_26 (pc' := 71) C dX4_appeal_68 (by first | assumption | exact rfl | exact al13 rfl | exact Nat.le_of_ble_eq_true rfl) rfl ?_
        refine g_iload_n (pc' := 72) C dX4_appeal_71 rfl rfl ?_
        refine g_iald (pc' := 73) C (j) hxj hcap dX4_appeal_72 (by first | assumption | exact rfl | exact al13 rfl | exact Nat.le_of_ble_eq_true rfl) rfl rfl rfl ?_
        refine g_zald (pc' := 74) C (mf I j) (by simp only [upI_at]; simpa using hf.1) hf.2 dX4_appeal_73 (by first | assumption | exact rfl | exact al13 rfl | exact Nat.le_of_ble_eq_true rfl) rfl rfl rfl ?_
        refine g_if_eq (tgt := 81) (pc' := 77) C dX4_appeal_74 (by decide) rfl (fun c6 => ?_) (fun c6 => ?_)
        ·
          try simp [upI_at] at c6
          refine g_bipush (v := 80) (pc' := 83) C dX4_appeal_81 (by decide) rfl ?_
          refine g_isub (pc' := 84) C dX4_appeal_83 rfl ?_
          refine g_iast (pc' := 85) C (j) hxj hcap dX4_appeal_84 (by first | assumption | exact rfl | exact al13 rfl | exact Nat.le_of_ble_eq_true rfl) (fun _ => rfl) rfl rfl ?_
          refine g_aload_n (pc' := 86) C dX4_appeal_85 rfl rfl ?_
          refine f_X4_35 (pc' := 89) C dX4_appeal_86 (by first | assumption | exact rfl | exact al13 rfl | exact Nat.le_of_ble_eq_true rfl) rfl ?_
          refine g_iload_n (pc' := 90) C dX4_appeal_89 rfl rfl ?_
          refine g_iald (pc' := 91) C (j) hxj hcap dX4_appeal_90 (by first | assumption | exact rfl | exact al13 rfl | exact Nat.le_of_ble_eq_true rfl) rfl rfl rfl ?_
          exact g_iret C hR dX4_appeal_91 ⟨by simp [mO5, mK5, mFe, th, upI_at, hn, hcl, c1, c2, c4, c5, c6], by simp [mO5, mK5, mFe, th, upI_at, hn, hcl, c1, c2, c4, c5, c6], rfl⟩
        ·
          try simp [upI_at] at c6
          refine g_iconst (v := 0) (pc' := 78) C dX4_appeal_77 (by decide) rfl ?_
          refine g_goto (tgt := 83) C dX4_appeal_78 (by decide) ?_
          refine g_isub (pc' := 84) C dX4_appeal_83 rfl ?_
          refine g_iast (pc' := 85) C (j) hxj hcap dX4_appeal_84 (by first | assumption | exact rfl | exact al13 rfl | exact Nat.le_of_ble_eq_true rfl) (fun _ => rfl) rfl rfl ?_
          refine g_aload_n (pc' := 86) C dX4_appeal_85 rfl rfl ?_
          refine f_X4_35 (pc' := 89) C dX4_appeal_86 (by first | assumption | exact rfl | exact al13 rfl | exact Nat.le_of_ble_eq_true rfl) rfl ?_
          refine g_iload_n (pc' := 90) C dX4_appeal_89 rfl rfl ?_
          refine g_iald (pc' := 91) C (j) hxj hcap dX4_appeal_90 (by first | assumption | exact rfl | exact al13 rfl | exact Nat.le_of_ble_eq_true rfl) rfl rfl rfl ?_
          exact g_iret C hR dX4_appeal_91 ⟨by simp [mO5, mK5, mFe, th, upI_at, hn, hcl, c1, c2, c4, c5, c6], by simp [mO5, mK5, mFe, th, upI_at, hn, hcl, c1, c2, c4, c5, c6], rfl⟩
      ·
        refine g_iconst (v := 2) (pc' := 33) C dX4_appeal_32 (by decide) rfl ?_
        refine g_goto (tgt := 37) C dX4_appeal_33 (by decide) ?_
        refine p_X4_71 (pc' := 40) C dX4_appeal_37 (by first | assumption | exact rfl | exact al13 rfl | exact Nat.le_of_ble_eq_true rfl) rfl ?_
        refine g_aload_n (pc' := 41) C dX4_appeal_40 rfl rfl ?_
        refine f_X4_71 (pc' := 44) C dX4_appeal_41 (by first | assumption | exact rfl | exact al13 rfl | exact Nat.le_of_ble_eq_true rfl) rfl ?_
        refine g_if_le (tgt := 49) (pc' := 47) C dX4_appeal_44 (by decide) rfl (fun c7 => absurd c7 (by first | decide | rw [thv]; decide)) (fun c7 => ?_)
        refine g_iconst (v := 0) (pc' := 48) C dX4_appeal_47 (by decide) rfl ?_
        exact g_iret C hR dX4_appeal_48 ⟨by simp [mO5, mK5, mFe, th, upI_at, hn, hcl, c1, c2, c4, c7], by simp [mO5, mK5, mFe, th, upI_at, hn, hcl, c1, c2, c4, c7], rfl⟩
  · have hn : oM x M = true := oM_T hx
    refine k_X4_88 (pc' := 6) C (m_X4_isMatterN X hx) dX4_appeal_3 (by first | assumption | exact rfl | exact al13 rfl | exact Nat.le_of_ble_eq_true rfl) ⟨⟨Nat.le_of_ble_eq_true rfl, Nat.le_of_ble_eq_true rfl⟩, rfl, rfl⟩ (Nat.le_of_ble_eq_true rfl) ⟨Nat.zero_le _, Nat.zero_le _⟩ rfl ?_
    refine g_if_ne (tgt := 13) (pc' := 9) C dX4_appeal_6 (by decide) rfl (fun c8 => absurd (by first | decide | rw [thv]; decide) c8) (fun c8 => ?_)
    refine g_iconst (v := 1) (pc' := 10) C dX4_appeal_9 (by decide) rfl ?_
    refine g_goto (tgt := 37) C dX4_appeal_10 (by decide) ?_
    refine p_X4_71 (pc' := 40) C dX4_appeal_37 (by first | assumption | exact rfl | exact al13 rfl | exact Nat.le_of_ble_eq_true rfl) rfl ?_
    refine g_aload_n (pc' := 41) C dX4_appeal_40 rfl rfl ?_
    refine f_X4_71 (pc' := 44) C dX4_appeal_41 (by first | assumption | exact rfl | exact al13 rfl | exact Nat.le_of_ble_eq_true rfl) rfl ?_
    refine g_if_le (tgt := 49) (pc' := 47) C dX4_appeal_44 (by decide) rfl (fun c9 => absurd c9 (by first | decide | rw [thv]; decide)) (fun c9 => ?_)
    refine g_iconst (v := 0) (pc' := 48) C dX4_appeal_47 (by decide) rfl ?_
    exact g_iret C hR dX4_appeal_48 ⟨by simp [mO5, mK5, mFe, th, upI_at, hn, c8, c9], by simp [mO5, mK5, mFe, th, upI_at, hn, c8, c9], rfl⟩
set_option maxRecDepth 20000 in
theorem l_X4_decide {K : wK} {z : wZ} {P : wP} {O : wO} {post : Option Value → wI → wP → Prop} {M N m : Nat} {x : Int32} (C : Cx K cX4_decide RX4 4 ((some .int)) { frames := 2, cells := 0, slots := 0, locals := 43 } z) (hR : Rx K z O post) (hx : x = nI m) (hm12 : m < 12) : ∀ (n h : Nat) (x2 x3 : Int32) (I : wI), MI M N I → x3 = nI h → h + n = N → post (some (.int (mdL m n h (I, x2)).2)) (mdL m n h (I, x2)).1 P → G K z I P O 0 0 51 [(0, .ref ((Kg K).2.2 12 0)), (1, .int x), (2, .int x2), (3, .int x3)] [] := by
  intro n
  induction n with
  | zero =>
    intro h x2 x3 I X ex3 hk hpost
    have hN := X.2.1
    refine g_iload_n (pc' := 52) C dX4_decide_51 rfl rfl ?_
    refine g_aload_n (pc' := 53) C dX4_decide_52 rfl rfl ?_
    refine f_X4_82 (pc' := 56) C dX4_decide_53 (by first | assumption | exact rfl | exact al13 rfl | exact Nat.le_of_ble_eq_true rfl) rfl ?_
    refine g_icmp_ge (tgt := 99) (pc' := 59) C dX4_decide_56 (by decide) rfl (fun c1 => ?_) (fun c1 => absurd (by rw [ex3, X.2.2.2.1, show h = N by omega]; exact Int32.le_refl _) c1)
    refine g_iload_n (pc' := 100) C dX4_decide_99 rfl rfl ?_
    exact g_iret C hR dX4_decide_100 hpost
  | succ n ih =>
    intro h x2 x3 I X ex3 hk hpost
    have hN := X.2.1
    have hh : h < N := by omega
    have h24 : h < 24 := by omega
    refine g_iload_n (pc' := 52) C dX4_decide_51 rfl rfl ?_
    refine g_aload_n (pc' := 53) C dX4_decide_52 rfl rfl ?_
    refine f_X4_82 (pc' := 56) C dX4_decide_53 (by first | assumption | exact rfl | exact al13 rfl | exact Nat.le_of_ble_eq_true rfl) rfl ?_
    refine g_icmp_ge (tgt := 99) (pc' := 59) C dX4_decide_56 (by decide) rfl (fun c1 => absurd c1 (by rw [ex3, X.2.2.2.1]; exact nI_ge hh (by omega))) (fun c1 => ?_)
    refine g_aload_n (pc' := 60) C dX4_decide_59 rfl rfl ?_
    refine f_X4_44 (pc' := 63) C dX4_decide_60 (by first | assumption | exact rfl | exact al13 rfl | exact Nat.le_of_ble_eq_true rfl) rfl ?_
    refine g_iload_n (pc' := 64) C dX4_decide_63 rfl rfl ?_
    refine g_iald (pc' := 65) C (h) ex3 h24 dX4_decide_64 (by first | assumption | exact rfl | exact al13 rfl | exact Nat.le_of_ble_eq_true rfl) rfl rfl rfl ?_
    refine g_iload_n (pc' := 66) C dX4_decide_65 rfl rfl ?_
    by_cases hmm : mm I h = m
    · refine g_icmp_ne (tgt := 93) (pc' := 69) C dX4_decide_66 (by decide) rfl (fun c => absurd (by rw [X.mt hh, hmm, hx]) c) (fun _ => ?_)
      refine g_aload_n (pc' := 70) C dX4_decide_69 rfl rfl ?_
      refine f_X4_41 (pc' := 73) C dX4_decide_70 (by first | assumption | exact rfl | exact al13 rfl | exact Nat.le_of_ble_eq_true rfl) rfl ?_
      refine g_iload_n (pc' := 74) C dX4_decide_73 rfl rfl ?_
      refine g_iald (pc' := 75) C (h) ex3 h24 dX4_decide_74 (by first | assumption | exact rfl | exact al13 rfl | exact Nat.le_of_ble_eq_true rfl) rfl rfl rfl ?_
      refine g_if_ne (tgt := 93) (pc' := 78) C dX4_decide_75 (by decide) rfl (fun c2 => ?_) (fun c2 => ?_)
      ·
        refine g_iinc (pc' := 96) C dX4_decide_93 rfl (ii1 _) rfl rfl ?_
        refine g_goto (tgt := 51) C dX4_decide_96 (by decide) ?_
        refine G_pick [0, 1, 2, 3] rfl (ih (h + 1) _ _ _ (by first | exact X | exact (X.lv' hh).up _ (by omega)) (by rw [ex3]; exact nI_1 h) (by omega) ?_)
        simpa [mdL, mdS, c1, hmm, c2] using hpost
      ·
        refine g_aload_n (pc' := 79) C dX4_decide_78 rfl rfl ?_
        refine g_iload_n (pc' := 80) C dX4_decide_79 rfl rfl ?_
        refine k_X4_92 (pc' := 83) C (m_X4_leaves X ex3 hh) dX4_decide_80 (by first | assumption | exact rfl | exact al13 rfl | exact Nat.le_of_ble_eq_true rfl) ⟨⟨Nat.le_of_ble_eq_true rfl, Nat.le_of_ble_eq_true rfl⟩, rfl, rfl⟩ (Nat.le_of_ble_eq_true rfl) ⟨Nat.zero_le _, Nat.zero_le _⟩ rfl ?_
        refine g_aload_n (pc' := 84) C dX4_decide_83 rfl rfl ?_
        refine f_X4_41 (pc' := 87) C dX4_decide_84 (by first | assumption | exact rfl | exact al13 rfl | exact Nat.le_of_ble_eq_true rfl) rfl ?_
        refine g_iload_n (pc' := 88) C dX4_decide_87 rfl rfl ?_
        refine g_iconst (v := 3) (pc' := 89) C dX4_decide_88 (by decide) rfl ?_
        refine g_iast (pc' := 90) C (h) ex3 h24 dX4_decide_89 (by first | assumption | exact rfl | exact al13 rfl | exact Nat.le_of_ble_eq_true rfl) (fun _ => rfl) rfl rfl ?_
        refine g_iinc (pc' := 93) C dX4_decide_90 rfl (ii1 _) rfl rfl ?_
        refine g_iinc (pc' := 96) C dX4_decide_93 rfl (ii1 _) rfl rfl ?_
        refine g_goto (tgt := 51) C dX4_decide_96 (by decide) ?_
        refine G_pick [0, 1, 2, 3] rfl (ih (h + 1) _ _ _ (by first | exact X | exact (X.lv' hh).up _ (by omega)) (by rw [ex3]; exact nI_1 h) (by omega) ?_)
        simpa [mdL, mdS, c1, hmm, c2] using hpost
    · refine g_icmp_ne (tgt := 93) (pc' := 69) C dX4_decide_66 (by decide) rfl (fun _ => ?_) (fun c => absurd ((nI_eq (by have := X.mt2 hh; omega) (by omega)).mp ((X.mt hh).symm.trans (c.trans hx))) hmm)
      refine g_iinc (pc' := 96) C dX4_decide_93 rfl (ii1 _) rfl rfl ?_
      refine g_goto (tgt := 51) C dX4_decide_96 (by decide) ?_
      refine G_pick [0, 1, 2, 3] rfl (ih (h + 1) _ _ _ (by first | exact X | exact (X.lv' hh).up _ (by omega)) (by rw [ex3]; exact nI_1 h) (by omega) ?_)
      simpa [mdL, mdS, c1, hmm] using hpost
set_option maxRecDepth 20000 in
theorem m_X4_decide {l : Launch} {g : wG} {z : wZ} {I : wI} {P : wP} {O : wO} {M N : Nat} {x : Int32} (X : MI M N I) : RT l yX4_decide cX4_decide 4 ((some .int)) { frames := 2, cells := 0, slots := 0, locals := 43 } g z [.ref (g.2.2 12 0), .int x] I P O (dp (some (.int (mO4 I M N x).2)) ((mO4 I M N x).1) (P)) := by
  refine RT.of (own := RX4) rfl (by decide +kernel) (Nat.le_of_ble_eq_true rfl) rfl (fun K C hl hg hR => ?_)
  subst hl
  subst hg
  refine g_aload_n (pc' := 1) C dX4_decide_0 rfl rfl ?_
  refine g_aload_n (pc' := 2) C dX4_decide_1 rfl rfl ?_
  refine g_iload_n (pc' := 3) C dX4_decide_2 rfl rfl ?_
  rcases in_of x M (by have := X.1; have := X.2.1; omega) with ⟨j, hj, hxj⟩ | hx
  · have hn : oM x M = false := oM_F hj hxj (by have := X.1; have := X.2.1; omega)
    have hcl : x.toNatClampNeg = j := by rw [hxj]; exact nI_clamp (by have := X.1; have := X.2.1; omega)
    have hcap : j < 12 := by have := X.1; have := X.2.1; omega
    refine k_X4_88 (pc' := 6) C (m_X4_isMatterS X hxj hj) dX4_decide_3 (by first | assumption | exact rfl | exact al13 rfl | exact Nat.le_of_ble_eq_true rfl) ⟨⟨Nat.le_of_ble_eq_true rfl, Nat.le_of_ble_eq_true rfl⟩, rfl, rfl⟩ (Nat.le_of_ble_eq_true rfl) ⟨Nat.zero_le _, Nat.zero_le _⟩ rfl ?_
    refine g_if_ne (tgt := 13) (pc' := 9) C dX4_decide_6 (by decide) rfl (fun c1 => ?_) (fun c1 => absurd c1 (by first | decide | rw [thv]; decide))
    refine g_aload_n (pc' := 14) C dX4_decide_13 rfl rfl ?_
    refine f_X4_20 (pc' := 17) C dX4_decide_14 (by first | assumption | exact rfl | exact al13 rfl | exact Nat.le_of_ble_eq_true rfl) rfl ?_
    refine g_iload_n (pc' := 18) C dX4_decide_17 rfl rfl ?_
    refine g_iald (pc' := 19) C (j) hxj hcap dX4_decide_18 (by first | assumption | exact rfl | exact al13 rfl | exact Nat.le_of_ble_eq_true rfl) rfl rfl rfl ?_
    refine g_iconst (v := 1) (pc' := 20) C dX4_decide_19 (by decide) rfl ?_
    refine g_icmp_eq (tgt := 27) (pc' := 23) C dX4_decide_20 (by decide) rfl (fun c2 => ?_) (fun c2 => ?_)
    ·
      refine g_iconst (v := 0) (pc' := 28) C dX4_decide_27 (by decide) rfl ?_
      refine p_X4_71 (pc' := 31) C dX4_decide_28 (by first | assumption | exact rfl | exact al13 rfl | exact Nat.le_of_ble_eq_true rfl) rfl ?_
      refine g_aload_n (pc' := 32) C dX4_decide_31 rfl rfl ?_
      refine f_X4_71 (pc' := 35) C dX4_decide_32 (by first | assumption | exact rfl | exact al13 rfl | exact Nat.le_of_ble_eq_true rfl) rfl ?_
      refine g_if_le (tgt := 40) (pc' := 38) C dX4_decide_35 (by decide) rfl (fun c3 => ?_) (fun c3 => absurd (by first | decide | rw [thv]; decide) c3)
      refine g_aload_n (pc' := 41) C dX4_decide_40 rfl rfl ?_
      refine f_X4_20 (pc' := 44) C dX4_decide_41 (by first | assumption | exact rfl | exact al13 rfl | exact Nat.le_of_ble_eq_true rfl) rfl ?_
      refine g_iload_n (pc' := 45) C dX4_decide_44 rfl rfl ?_
      refine g_iconst (v := 2) (pc' := 46) C dX4_decide_45 (by decide) rfl ?_
      refine g_iast (pc' := 47) C (j) hxj hcap dX4_decide_46 (by first | assumption | exact rfl | exact al13 rfl | exact Nat.le_of_ble_eq_true rfl) (fun _ => rfl) rfl rfl ?_
      refine g_iconst (v := 0) (pc' := 48) C dX4_decide_47 (by decide) rfl ?_
      refine g_istore_n (pc' := 49) C dX4_decide_48 rfl rfl ?_
      refine g_iconst (v := 0) (pc' := 50) C dX4_decide_49 (by decide) rfl ?_
      refine g_istore_n (pc' := 51) C dX4_decide_50 rfl rfl ?_
      refine l_X4_decide C hR hxj hcap N 0 0 0 _ ((X.up _ (by omega)).up _ (by omega)) nI_0.symm (by omega) ⟨?_, ?_, rfl⟩ <;> simp [mO4, mKs, th, hn, hcl, c1, c2, c3]
    ·
      refine g_iconst (v := 2) (pc' := 24) C dX4_decide_23 (by decide) rfl ?_
      refine g_goto (tgt := 28) C dX4_decide_24 (by decide) ?_
      refine p_X4_71 (pc' := 31) C dX4_decide_28 (by first | assumption | exact rfl | exact al13 rfl | exact Nat.le_of_ble_eq_true rfl) rfl ?_
      refine g_aload_n (pc' := 32) C dX4_decide_31 rfl rfl ?_
      refine f_X4_71 (pc' := 35) C dX4_decide_32 (by first | assumption | exact rfl | exact al13 rfl | exact Nat.le_of_ble_eq_true rfl) rfl ?_
      refine g_if_le (tgt := 40) (pc' := 38) C dX4_decide_35 (by decide) rfl (fun c4 => absurd c4 (by first | decide | rw [thv]; decide)) (fun c4 => ?_)
      refine g_iconst (v := 0) (pc' := 39) C dX4_decide_38 (by decide) rfl ?_
      exact g_iret C hR dX4_decide_39 ⟨by simp [mO4, mKs, th, upI_at, hn, hcl, c1, c2, c4], by simp [mO4, mKs, th, upI_at, hn, hcl, c1, c2, c4], rfl⟩
  · have hn : oM x M = true := oM_T hx
    refine k_X4_88 (pc' := 6) C (m_X4_isMatterN X hx) dX4_decide_3 (by first | assumption | exact rfl | exact al13 rfl | exact Nat.le_of_ble_eq_true rfl) ⟨⟨Nat.le_of_ble_eq_true rfl, Nat.le_of_ble_eq_true rfl⟩, rfl, rfl⟩ (Nat.le_of_ble_eq_true rfl) ⟨Nat.zero_le _, Nat.zero_le _⟩ rfl ?_
    refine g_if_ne (tgt := 13) (pc' := 9) C dX4_decide_6 (by decide) rfl (fun c5 => absurd (by first | decide | rw [thv]; decide) c5) (fun c5 => ?_)
    refine g_iconst (v := 1) (pc' := 10) C dX4_decide_9 (by decide) rfl ?_
    refine g_goto (tgt := 28) C dX4_decide_10 (by decide) ?_
    refine p_X4_71 (pc' := 31) C dX4_decide_28 (by first | assumption | exact rfl | exact al13 rfl | exact Nat.le_of_ble_eq_true rfl) rfl ?_
    refine g_aload_n (pc' := 32) C dX4_decide_31 rfl rfl ?_
    refine f_X4_71 (pc' := 35) C dX4_decide_32 (by first | assumption | exact rfl | exact al13 rfl | exact Nat.le_of_ble_eq_true rfl) rfl ?_
    refine g_if_le (tgt := 40) (pc' := 38) C dX4_decide_35 (by decide) rfl (fun c6 => absurd c6 (by first | decide | rw [thv]; decide)) (fun c6 => ?_)
    refine g_iconst (v := 0) (pc' := 39) C dX4_decide_38 (by decide) rfl ?_
    exact g_iret C hR dX4_decide_39 ⟨by simp [mO4, mKs, th, upI_at, hn, c5, c6], by simp [mO4, mKs, th, upI_at, hn, c5, c6], rfl⟩
set_option maxRecDepth 20000 in
theorem m_X4_hour {l : Launch} {g : wG} {z : wZ} {I : wI} {P : wP} {O : wO} : RT l yX4_hour cX4_hour 1 ((some .int)) { frames := 0, cells := 0, slots := 0, locals := 0 } g z [.ref (g.2.2 12 0)] I P O (dp (some (.int (I 12 0 1))) (th I 0) (P)) := by
  refine RT.of (own := RX4) rfl (by decide +kernel) (Nat.le_of_ble_eq_true rfl) rfl (fun K C hl hg hR => ?_)
  subst hl
  subst hg
  refine g_aload_n (pc' := 1) C dX4_hour_0 rfl rfl ?_
  refine g_iconst (v := 0) (pc' := 2) C dX4_hour_1 (by decide) rfl ?_
  refine p_X4_71 (pc' := 5) C dX4_hour_2 (by first | assumption | exact rfl | exact al13 rfl | exact Nat.le_of_ble_eq_true rfl) rfl ?_
  refine g_aload_n (pc' := 6) C dX4_hour_5 rfl rfl ?_
  refine f_X4_85 (pc' := 9) C dX4_hour_6 (by first | assumption | exact rfl | exact al13 rfl | exact Nat.le_of_ble_eq_true rfl) rfl ?_
  exact g_iret C hR dX4_hour_9 ⟨by rw [upI_at, if_neg (by omega)], rfl, rfl⟩
def mbL (I : wI) : Nat → Nat → Int32 → Int32
  | 0, _, x => x
  | n + 1, m, x => mbL I n (m + 1) (x + I 13 11 m)
set_option maxRecDepth 20000 in
theorem l_X4_balances {K : wK} {z : wZ} {P : wP} {O : wO} {post : Option Value → wI → wP → Prop} {I : wI} {M N : Nat} (C : Cx K cX4_balances RX4 3 ((some .int)) { frames := 0, cells := 0, slots := 0, locals := 0 } z) (hR : Rx K z O post) (X : MI M N I) : ∀ (n m : Nat) (x1 x2 : Int32), x2 = nI m → m + n = M → post (some (.int (mbL I n m x1))) I P → G K z I P O 0 0 9 [(0, .ref ((Kg K).2.2 12 0)), (1, .int x1), (2, .int x2)] [] := by
  intro n
  induction n with
  | zero =>
    intro m x1 x2 ex2 hk hpost
    have hM12 := X.1
    refine g_iload_n (pc' := 10) C dX4_balances_9 rfl rfl ?_
    refine g_aload_n (pc' := 11) C dX4_balances_10 rfl rfl ?_
    refine f_X4_75 (pc' := 14) C dX4_balances_11 (by first | assumption | exact rfl | exact al13 rfl | exact Nat.le_of_ble_eq_true rfl) rfl ?_
    refine g_icmp_ge (tgt := 32) (pc' := 17) C dX4_balances_14 (by decide) rfl (fun c1 => ?_) (fun c1 => absurd (by rw [ex2, X.2.2.1, show m = M by omega]; exact Int32.le_refl _) c1)
    refine g_iload_n (pc' := 33) C dX4_balances_32 rfl rfl ?_
    exact g_iret C hR dX4_balances_33 hpost
  | succ n ih =>
    intro m x1 x2 ex2 hk hpost
    have hM12 := X.1
    have hmM : m < M := by omega
    have m12 : m < 12 := by omega
    refine g_iload_n (pc' := 10) C dX4_balances_9 rfl rfl ?_
    refine g_aload_n (pc' := 11) C dX4_balances_10 rfl rfl ?_
    refine f_X4_75 (pc' := 14) C dX4_balances_11 (by first | assumption | exact rfl | exact al13 rfl | exact Nat.le_of_ble_eq_true rfl) rfl ?_
    refine g_icmp_ge (tgt := 32) (pc' := 17) C dX4_balances_14 (by decide) rfl (fun c1 => absurd c1 (by rw [ex2, X.2.2.1]; exact nI_ge hmM (by omega))) (fun c1 => ?_)
    refine g_iload_n (pc' := 18) C dX4_balances_17 rfl rfl ?_
    refine g_aload_n (pc' := 19) C dX4_balances_18 rfl rfl ?_
    refine f_X4_35 (pc' := 22) C dX4_balances_19 (by first | assumption | exact rfl | exact al13 rfl | exact Nat.le_of_ble_eq_true rfl) rfl ?_
    refine g_iload_n (pc' := 23) C dX4_balances_22 rfl rfl ?_
    refine g_iald (pc' := 24) C (m) ex2 m12 dX4_balances_23 (by first | assumption | exact rfl | exact al13 rfl | exact Nat.le_of_ble_eq_true rfl) rfl rfl rfl ?_
    refine g_iadd (pc' := 25) C dX4_balances_24 rfl ?_
    refine g_istore_n (pc' := 26) C dX4_balances_25 rfl rfl ?_
    refine g_iinc (pc' := 29) C dX4_balances_26 rfl (ii1 _) rfl rfl ?_
    refine g_goto (tgt := 9) C dX4_balances_29 (by decide) ?_
    exact G_pick [0, 1, 2] rfl (ih (m + 1) _ _ (by rw [ex2]; exact nI_1 m) (by omega) hpost)
set_option maxRecDepth 20000 in
theorem m_X4_balances {l : Launch} {g : wG} {z : wZ} {I : wI} {P : wP} {O : wO} {M N : Nat} (X : MI M N I) : RT l yX4_balances cX4_balances 3 ((some .int)) { frames := 0, cells := 0, slots := 0, locals := 0 } g z [.ref (g.2.2 12 0)] I P O (dp (some (.int (mbL (th I 0) M 0 0))) (th I 0) (P)) := by
  refine RT.of (own := RX4) rfl (by decide +kernel) (Nat.le_of_ble_eq_true rfl) rfl (fun K C hl hg hR => ?_)
  subst hl
  subst hg
  refine g_aload_n (pc' := 1) C dX4_balances_0 rfl rfl ?_
  refine g_iconst (v := 0) (pc' := 2) C dX4_balances_1 (by decide) rfl ?_
  refine p_X4_71 (pc' := 5) C dX4_balances_2 (by first | assumption | exact rfl | exact al13 rfl | exact Nat.le_of_ble_eq_true rfl) rfl ?_
  refine g_iconst (v := 0) (pc' := 6) C dX4_balances_5 (by decide) rfl ?_
  refine g_istore_n (pc' := 7) C dX4_balances_6 rfl rfl ?_
  refine g_iconst (v := 0) (pc' := 8) C dX4_balances_7 (by decide) rfl ?_
  refine g_istore_n (pc' := 9) C dX4_balances_8 rfl rfl ?_
  exact l_X4_balances C hR X.th M 0 0 0 nI_0.symm (by omega) ⟨rfl, rfl, rfl⟩
end WModel4
