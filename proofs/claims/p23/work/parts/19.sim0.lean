section WSim0
theorem upI_kind {I : wI} {a b j k : Nat} {v : Int32} (h : k ≠ a) : upI I a b j v k = I k := funext fun i => upI_off I v (fun e => h e.1)
theorem upP_kind {P : wP} {a b j k : Nat} {v : Option Nat} (h : k ≠ a) : upP P a b j v k = P k := funext fun i => upP_off P v (fun e => h e.1)
theorem upI_self (I : wI) (a b j : Nat) : upI I a b j (I a b j) = I := by
  funext k i c
  rw [upI_at]
  split
  · next h => obtain ⟨rfl, rfl, rfl⟩ := h; rfl
  · rfl
theorem rg_nI {t : Nat} (h : t < 2 ^ 31) : rg (nI t) = t % 16 := by
  unfold rg
  rw [pk_andN (n := t) (by omega) (m := 15) 4 (by decide)]
  exact nI_clamp (n := t % 2 ^ 4) (by omega)
def oN : Option Nat → Int32
  | none => 0
  | some q => nI (q + 1)
/-- a matter in the class and in the reference -/
def MR (I J : wI) (m : Nat) : Prop := I 2 m 0 = nI m ∧ I 2 m 1 = J 13 7 m ∧ I 2 m 2 = J 13 8 m ∧ I 2 m 3 = J 13 9 m ∧ I 2 m 4 = J 13 10 m ∧ I 2 m 5 = J 13 6 m ∧ ¬ J 13 8 m = J 13 9 m
def HT (a b c : Int32) : Prop := (a = 0 ∧ b = 0 ∧ c = 0) ∨ (a = 1 ∧ b = 0 ∧ c = 1) ∨ (a = 0 ∧ b = 1 ∧ c = 2) ∨ (a = 1 ∧ b = 1 ∧ c = 3)
/-- a hearing in both -/
def HR (I : wI) (P : wP) (J : wI) (h : Nat) : Prop := I 3 h 0 = nI h ∧ P 3 h 1 = some (mm J h) ∧ I 3 h 2 = J 13 19 h ∧ I 3 h 4 = J 13 14 h ∧ I 3 h 5 = J 13 16 h ∧ I 3 h 6 = J 13 17 h ∧ I 3 h 7 = J 13 18 h ∧ HT (I 3 h 8) (I 3 h 9) (J 13 20 h) ∧ 0 < mh J h
def HC (I J : wI) (h : Nat) : Prop := (∀ k, k < 4 → I 11 h k = J 13 21 (4 * h + k)) ∧ (∀ k, k < 4 → mh J h ≤ k ∨ J 13 17 h = -1 → J 13 21 (4 * h + k) = 0)
def HN (nw : Nat) (J : wI) (h : Nat) : Prop := J 13 14 h = 0 → nw < mfr J h + mh J h
/-- paid time: the ring of 16 places, and the long row -/
def PR (I : wI) (P : wP) (J : wI) (nw i : Nat) : Prop :=
  (∀ t, nw < t → t ≤ 1003 → J 13 22 (1004 * i + t) = oN (py I P i (nI t) (nI nw)) ∧ ∀ q, py I P i (nI t) (nI nw) = some q → J 13 23 (1004 * i + t) = I 10 i (t % 16)) ∧
  (∀ p q, p < 16 → P 9 i p = some q → ∃ t, t ≤ 1002 ∧ t % 16 = p ∧ I 8 i p = nI t ∧ t ≤ nw + 10)
def sm2 (J : wI) (h h' : Nat) : Prop := J 13 16 h = J 13 16 h' ∨ J 13 7 (mm J h) = J 13 7 (mm J h') ∨ (J 13 8 (mm J h) = J 13 8 (mm J h') ∨ J 13 8 (mm J h) = J 13 9 (mm J h') ∨ J 13 9 (mm J h) = J 13 8 (mm J h') ∨ J 13 9 (mm J h) = J 13 9 (mm J h')) ∨ (¬ J 13 17 h' = -1 ∧ J 13 17 h = J 13 17 h')
/-- no two clash -/
def NC (N : Nat) (J : wI) : Prop := ∀ h h', h < N → h' < N → h ≠ h' → J 13 14 h = 0 → J 13 14 h' = 0 → mt4 (J 13 18 h) (J 13 19 h) (J 13 18 h') (J 13 19 h') = true → ¬ sm2 J h h'
def SN (nw : Nat) (I J : wI) : Prop := I 0 0 6 = nI nw ∧ J 12 0 1 = nI nw ∧ nw ≤ 1000
def SI (I J : wI) : Prop := ∀ i, i < 4 → I 1 i 0 = J 13 2 i ∧ I 1 i 1 = J 13 3 i
def SW (I J : wI) : Prop := ∀ j, j < 6 → I 5 0 j = J 13 4 j ∧ (J 13 4 j = 0 ∨ J 13 4 j = 1)
def SE (M : Nat) (I J : wI) : Prop := ∀ m, m < M → I 2 m 7 = J 13 12 m
def SB (M : Nat) (I J : wI) : Prop := ∀ m, m < M → I 2 m 6 = J 13 11 m
def SF (z : wZ) (J : wI) : Prop := (∀ m, z.1 ≤ m → m < 12 → J 13 6 m = 0) ∧ ∀ h, z.2 ≤ h → h < 24 → J 13 14 h = 0 ∧ J 13 20 h = 0
def SC (N : Nat) (I J : wI) : Prop := (∀ h, h < N → HC I J h) ∧ ∀ h k, N ≤ h → h < 24 → k < 4 → J 13 21 (4 * h + k) = 0
def SP (nw : Nat) (I : wI) (P : wP) (J : wI) : Prop := ∀ i, i < 4 → PR I P J nw i
def SA (z : wZ) (nw : Nat) (I : wI) (P : wP) (J : wI) : Prop := SN nw I J ∧ SI I J ∧ SW I J ∧ (∀ m, m < z.1 → MR I J m) ∧ SE z.1 I J ∧ SF z J ∧ (∀ h, h < z.2 → HR I P J h) ∧ (∀ h, h < z.2 → HN nw J h) ∧ NC z.2 J
def Sim (z : wZ) (nw : Nat) (I : wI) (P : wP) (J : wI) : Prop := XI z I P ∧ MI z.1 z.2 J ∧ SA z nw I P J ∧ SC z.2 I J ∧ SB z.1 I J ∧ SP nw I P J
variable {z : wZ} {nw : Nat} {I I' : wI} {P P' : wP} {J J' : wI}
theorem Sim.X (S : Sim z nw I P J) : XI z I P := S.1
theorem Sim.M (S : Sim z nw I P J) : MI z.1 z.2 J := S.2.1
theorem Sim.A (S : Sim z nw I P J) : SA z nw I P J := S.2.2.1
theorem Sim.C (S : Sim z nw I P J) : SC z.2 I J := S.2.2.2.1
theorem Sim.B (S : Sim z nw I P J) : SB z.1 I J := S.2.2.2.2.1
theorem Sim.D (S : Sim z nw I P J) : SP nw I P J := S.2.2.2.2.2
theorem SA.n (S : SA z nw I P J) : SN nw I J := S.1
theorem SA.i (S : SA z nw I P J) : SI I J := S.2.1
theorem SA.w (S : SA z nw I P J) : SW I J := S.2.2.1
theorem SA.m (S : SA z nw I P J) {m : Nat} (h : m < z.1) : MR I J m := S.2.2.2.1 m h
theorem SA.e (S : SA z nw I P J) : SE z.1 I J := S.2.2.2.2.1
theorem SA.f (S : SA z nw I P J) : SF z J := S.2.2.2.2.2.1
theorem SA.h (S : SA z nw I P J) {h : Nat} (hh : h < z.2) : HR I P J h := S.2.2.2.2.2.2.1 h hh
theorem SA.hn (S : SA z nw I P J) {h : Nat} (hh : h < z.2) : HN nw J h := S.2.2.2.2.2.2.2.1 h hh
theorem SA.nc (S : SA z nw I P J) : NC z.2 J := S.2.2.2.2.2.2.2.2
theorem py_congr {i : Nat} {a b : Int32} (h8 : I' 8 = I 8) (h9 : P' 9 = P 9) : py I' P' i a b = py I P i a b := by unfold py; rw [h8, h9]
theorem Sim.cI (S : Sim z nw I P J) (h : ∀ k, k < 12 → I' k = I k) : Sim z nw I' P J := by
  have h0 := h 0 (by decide)
  have h1 := h 1 (by decide)
  have h2 := h 2 (by decide)
  have h3 := h 3 (by decide)
  have h5 := h 5 (by decide)
  have h8 := h 8 (by decide)
  have h10 := h 10 (by decide)
  have h11 := h 11 (by decide)
  have hpy : ∀ i a b, py I' P i a b = py I P i a b := fun i a b => py_congr h8 rfl
  simpa only [Sim, XI, hrN, fsN, SA, SN, SI, SW, SE, SB, SC, SP, MR, HR, HC, PR, hpy, h0, h1, h2, h3, h5, h8, h10, h11] using S
theorem Sim.cJ (S : Sim z nw I P J) (h : ∀ k, 12 ≤ k → J' k = J k) : Sim z nw I P J' := by
  have h12 := h 12 (by decide)
  have h13 := h 13 (by decide)
  simpa only [Sim, MI, mm, mh, mf, mfr, msp, mpy, SA, SN, SI, SW, SE, SB, SF, SC, SP, MR, HR, HC, HN, PR, NC, sm2, h12, h13] using S
theorem th_13 (J : wI) (v : Int32) : th J v 13 = J 13 := upI_kind (by decide)
theorem th_lt (J : wI) (v : Int32) {k : Nat} (h : k < 12) : th J v k = J k := upI_kind (by omega)
theorem Sim.thr (S : Sim z nw I P J) (v : Int32) : Sim z nw I P (th J v) := by
  have h13 := th_13 J v
  have h1 : th J v 12 0 1 = J 12 0 1 := th_off (by decide)
  have h5 : th J v 12 0 5 = J 12 0 5 := th_off (by decide)
  have h6 : th J v 12 0 13 = J 12 0 13 := th_off (by decide)
  simpa only [Sim, MI, mm, mh, mf, mfr, msp, mpy, SA, SN, SI, SW, SE, SB, SF, SC, SP, MR, HR, HC, HN, PR, NC, sm2, h13, h1, h5, h6] using S
/-- what the loops of leaving and coming leave -/
theorem SA.of (S : SA z nw I P J) (hI : ∀ k j c, k < 12 → k ≠ 8 → k ≠ 10 → k ≠ 11 → ¬ (k = 2 ∧ c = 6) → I' k j c = I k j c) (hP : ∀ k, k ≠ 9 → P' k = P k) (hn : J' 12 0 1 = J 12 0 1) (hJ : ∀ f c, f ≠ 11 → f ≠ 21 → f ≠ 22 → f ≠ 23 → J' 13 f c = J 13 f c) : SA z nw I' P' J' := by
  have h0 : ∀ j c, I' 0 j c = I 0 j c := fun j c => hI 0 j c (by decide) (by decide) (by decide) (by decide) (by omega)
  have h1 : ∀ j c, I' 1 j c = I 1 j c := fun j c => hI 1 j c (by decide) (by decide) (by decide) (by decide) (by omega)
  have h3 : ∀ j c, I' 3 j c = I 3 j c := fun j c => hI 3 j c (by decide) (by decide) (by decide) (by decide) (by omega)
  have h5 : ∀ j c, I' 5 j c = I 5 j c := fun j c => hI 5 j c (by decide) (by decide) (by decide) (by decide) (by omega)
  have h20 : ∀ j, I' 2 j 0 = I 2 j 0 := fun j => hI 2 j 0 (by decide) (by decide) (by decide) (by decide) (by omega)
  have h21 : ∀ j, I' 2 j 1 = I 2 j 1 := fun j => hI 2 j 1 (by decide) (by decide) (by decide) (by decide) (by omega)
  have h22 : ∀ j, I' 2 j 2 = I 2 j 2 := fun j => hI 2 j 2 (by decide) (by decide) (by decide) (by decide) (by omega)
  have h23 : ∀ j, I' 2 j 3 = I 2 j 3 := fun j => hI 2 j 3 (by decide) (by decide) (by decide) (by decide) (by omega)
  have h24 : ∀ j, I' 2 j 4 = I 2 j 4 := fun j => hI 2 j 4 (by decide) (by decide) (by decide) (by decide) (by omega)
  have h25 : ∀ j, I' 2 j 5 = I 2 j 5 := fun j => hI 2 j 5 (by decide) (by decide) (by decide) (by decide) (by omega)
  have h27 : ∀ j, I' 2 j 7 = I 2 j 7 := fun j => hI 2 j 7 (by decide) (by decide) (by decide) (by decide) (by omega)
  have p3 := hP 3 (by decide)
  have j2 : ∀ c, J' 13 2 c = J 13 2 c := fun c => hJ 2 c (by decide) (by decide) (by decide) (by decide)
  have j3 : ∀ c, J' 13 3 c = J 13 3 c := fun c => hJ 3 c (by decide) (by decide) (by decide) (by decide)
  have j4 : ∀ c, J' 13 4 c = J 13 4 c := fun c => hJ 4 c (by decide) (by decide) (by decide) (by decide)
  have j6 : ∀ c, J' 13 6 c = J 13 6 c := fun c => hJ 6 c (by decide) (by decide) (by decide) (by decide)
  have j7 : ∀ c, J' 13 7 c = J 13 7 c := fun c => hJ 7 c (by decide) (by decide) (by decide) (by decide)
  have j8 : ∀ c, J' 13 8 c = J 13 8 c := fun c => hJ 8 c (by decide) (by decide) (by decide) (by decide)
  have j9 : ∀ c, J' 13 9 c = J 13 9 c := fun c => hJ 9 c (by decide) (by decide) (by decide) (by decide)
  have j10 : ∀ c, J' 13 10 c = J 13 10 c := fun c => hJ 10 c (by decide) (by decide) (by decide) (by decide)
  have j12 : ∀ c, J' 13 12 c = J 13 12 c := fun c => hJ 12 c (by decide) (by decide) (by decide) (by decide)
  have j14 : ∀ c, J' 13 14 c = J 13 14 c := fun c => hJ 14 c (by decide) (by decide) (by decide) (by decide)
  have j15 : ∀ c, J' 13 15 c = J 13 15 c := fun c => hJ 15 c (by decide) (by decide) (by decide) (by decide)
  have j16 : ∀ c, J' 13 16 c = J 13 16 c := fun c => hJ 16 c (by decide) (by decide) (by decide) (by decide)
  have j17 : ∀ c, J' 13 17 c = J 13 17 c := fun c => hJ 17 c (by decide) (by decide) (by decide) (by decide)
  have j18 : ∀ c, J' 13 18 c = J 13 18 c := fun c => hJ 18 c (by decide) (by decide) (by decide) (by decide)
  have j19 : ∀ c, J' 13 19 c = J 13 19 c := fun c => hJ 19 c (by decide) (by decide) (by decide) (by decide)
  have j20 : ∀ c, J' 13 20 c = J 13 20 c := fun c => hJ 20 c (by decide) (by decide) (by decide) (by decide)
  simpa only [SA, SN, SI, SW, SE, SF, MR, HR, HN, NC, sm2, mm, mh, mfr, h0, h1, h3, h5, h20, h21, h22, h23, h24, h25, h27, p3, hn, j2, j3, j4, j6, j7, j8, j9, j10, j12, j14, j15, j16, j17, j18, j19, j20] using S
theorem SC.of {N : Nat} (S : SC N I J) (h11 : ∀ j c, I' 11 j c = I 11 j c) (j19 : ∀ c, J' 13 19 c = J 13 19 c) (j17 : ∀ c, J' 13 17 c = J 13 17 c) (j21 : ∀ c, J' 13 21 c = J 13 21 c) : SC N I' J' := by
  simpa only [SC, HC, mh, h11, j19, j17, j21] using S
theorem SP.of (S : SP nw I P J) (h8 : I' 8 = I 8) (h10 : I' 10 = I 10) (h9 : P' 9 = P 9) (j22 : ∀ c, J' 13 22 c = J 13 22 c) (j23 : ∀ c, J' 13 23 c = J 13 23 c) : SP nw I' P' J' := by
  have hpy : ∀ i a b, py I' P' i a b = py I P i a b := fun i a b => py_congr h8 h9
  simpa only [SP, PR, hpy, h8, h10, h9, j22, j23] using S
theorem SB.up {M m : Nat} (S : SB M I J) {x y : Int32} (e : x = y) : SB M (upI I 2 m 6 x) (upI J 13 11 m y) := fun q hq => by
  rw [upI_at, upI_at]
  by_cases h : q = m
  · subst h; simp [e]
  · simp [h, S q hq]
theorem Sim.bal (S : Sim z nw I P J) {m : Nat} {x y : Int32} (e : x = y) : Sim z nw (upI I 2 m 6 x) P (upI J 13 11 m y) :=
  ⟨S.X.upI _ (by omega) (by omega) (by omega), S.M.up _ (by omega), S.A.of (fun k j c _ _ _ _ h => by rw [upI_at, if_neg (by omega)]) (fun _ _ => rfl) (by rw [upI_at, if_neg (by omega)]) (fun f c h _ _ _ => by rw [upI_at, if_neg (by omega)]), S.C.of (fun j c => by rw [upI_at, if_neg (by omega)]) (fun c => by rw [upI_at, if_neg (by omega)]) (fun c => by rw [upI_at, if_neg (by omega)]) (fun c => by rw [upI_at, if_neg (by omega)]), S.B.up e, S.D.of (upI_kind (by decide)) (upI_kind (by decide)) rfl (fun c => by rw [upI_at, if_neg (by omega)]) (fun c => by rw [upI_at, if_neg (by omega)])⟩
/-- one more thing about the numbers of a matter that exists -/
theorem Sim.eI (S : Sim z nw I P J) : I 0 0 6 = J 12 0 1 := S.A.n.1.trans S.A.n.2.1.symm
theorem Sim.mxe (S : Sim z nw I P J) {h : Nat} (hh : h < z.2) : mx P h = mm J h := by unfold mx; rw [(S.A.h hh).2.1]; rfl
theorem Sim.mmM (S : Sim z nw I P J) {h : Nat} (hh : h < z.2) : mm J h < z.1 := S.M.mtM hh
theorem Sim.hr (S : Sim z nw I P J) {h : Nat} (hh : h < z.2) : hrN I h = mh J h := by unfold hrN mh; rw [(S.A.h hh).2.2.1]
theorem SA.st (S : SA z nw I P J) {m : Nat} (h : m < z.1) : I 2 m 5 = J 13 6 m := (S.m h).2.2.2.2.2.1
theorem inn_inR (x : Int32) (n : Nat) (hn : n < 2 ^ 30) : inn x (nI (n + 1)) = inR x 0 (nI n) := by
  unfold inn inR
  have h1 : (nI n).toInt = n := nI_toInt (by omega)
  have h2 : (nI (n + 1)).toInt = n + 1 := nI_toInt (by omega)
  congr 1
  rw [Bool.eq_iff_iff]
  simp only [Bool.not_eq_true', decide_eq_false_iff_not, Int32.le_iff_toInt_le, Int32.lt_iff_toInt_lt, h1, h2]
  omega
theorem inn4 (x : Int32) : inn x 4 = inR x 0 3 := inn_inR x 3 (by decide)
theorem inn6 (x : Int32) : inn x 6 = inR x 0 5 := inn_inR x 5 (by decide)
theorem inn8 (x : Int32) : inn x 8 = inR x 0 7 := inn_inR x 7 (by decide)
theorem oM_inR (x : Int32) (n : Nat) (hn : n < 2 ^ 30) : oM x (n + 1) = !inR x 0 (nI n) := by
  unfold oM inR
  have h1 : (nI n).toInt = n := nI_toInt (by omega)
  have h2 : (nI (n + 1)).toInt = n + 1 := nI_toInt (by omega)
  have h0 : (0 : Int32).toInt = 0 := by decide
  rw [Bool.eq_iff_iff]
  simp only [decide_eq_true_eq, Bool.not_eq_true', Bool.and_eq_false_iff, Bool.not_eq_false', Int32.le_iff_toInt_le, Int32.lt_iff_toInt_lt, h1, h2, h0]
  omega
theorem oM4 (x : Int32) : oM x 4 = !inR x 0 3 := oM_inR x 3 (by decide)
theorem inN_inR (x : Int32) : inN x = inR x (-1) 3 := by
  unfold inN inn inR
  have h0 : (0 : Int32).toInt = 0 := by decide
  have h1 : (-1 : Int32).toInt = -1 := by decide
  have h3 : (3 : Int32).toInt = 3 := by decide
  have h4 : (4 : Int32).toInt = 4 := by decide
  rw [Bool.eq_iff_iff]
  simp only [decide_eq_true_eq, Bool.or_eq_true, Bool.and_eq_true, Bool.not_eq_true', decide_eq_false_iff_not, Int32.le_iff_toInt_le, Int32.lt_iff_toInt_lt, ← Int32.toInt_inj, h0, h1, h3, h4]
  omega
theorem inR_neg {x lo hi : Int32} : inR x lo hi = false ↔ x < lo ∨ hi < x := by
  unfold inR
  simp only [Bool.and_eq_false_iff, Bool.not_eq_false', decide_eq_true_eq]
end WSim0
