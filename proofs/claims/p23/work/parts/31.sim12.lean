section WSim12
variable {z z' : wZ} {nw nw' : Nat} {I I' : wI} {P P' : wP} {J J' : wI}
def cnt (p : Nat → Bool) : Nat → Nat → Nat
  | _, 0 => 0
  | a, n + 1 => (if p a = true then 1 else 0) + cnt p (a + 1) n
theorem cnt_snoc {p : Nat → Bool} : ∀ (n a : Nat), cnt p a (n + 1) = cnt p a n + (if p (a + n) = true then 1 else 0)
  | 0, a => by simp [cnt]
  | n + 1, a => by
    show (if p a = true then 1 else 0) + cnt p (a + 1) (n + 1) = ((if p a = true then 1 else 0) + cnt p (a + 1) n) + _
    rw [cnt_snoc n (a + 1), show a + 1 + n = a + (n + 1) by omega]
    omega
theorem cnt_congr {p q : Nat → Bool} : ∀ (n a : Nat), (∀ t, a ≤ t → t < a + n → p t = q t) → cnt p a n = cnt q a n
  | 0, _, _ => rfl
  | n + 1, a, h => by
    show (if p a = true then 1 else 0) + cnt p (a + 1) n = (if q a = true then 1 else 0) + cnt q (a + 1) n
    rw [h a (by omega) (by omega), cnt_congr n (a + 1) (fun t h1 h2 => h t (by omega) (by omega))]
theorem cnt_ext {p : Nat → Bool} {a n : Nat} : ∀ d : Nat, (∀ t, a + n ≤ t → t < a + n + d → p t = false) → cnt p a (n + d) = cnt p a n
  | 0, _ => rfl
  | d + 1, h => by
    rw [show n + (d + 1) = (n + d) + 1 by omega, cnt_snoc, h (a + (n + d)) (by omega) (by omega), cnt_ext d (fun t h1 h2 => h t h1 (by omega))]
    simp
theorem cnt_mod {f : Nat → Bool} : ∀ a : Nat, cnt (fun t => f (t % 16)) a 16 = cnt f 0 16
  | 0 => cnt_congr 16 0 (fun t _ h => by show f (t % 16) = f t; rw [Nat.mod_eq_of_lt (by omega)])
  | a + 1 => by
    rw [← cnt_mod a]
    have h1 := cnt_snoc (p := fun t => f (t % 16)) 16 a
    have h2 : cnt (fun t => f (t % 16)) a 17 = (if f (a % 16) = true then 1 else 0) + cnt (fun t => f (t % 16)) (a + 1) 16 := rfl
    have h3 : (a + 16) % 16 = a % 16 := by omega
    have h1 : cnt (fun t => f (t % 16)) a 17 = cnt (fun t => f (t % 16)) a 16 + (if f ((a + 16) % 16) = true then 1 else 0) := h1
    rw [h3] at h1
    omega
theorem hpL_cnt {i m : Nat} {now : Int32} : ∀ (n k : Nat) (x : Int32), hpL I P i m now n k x = x + nI (cnt (fun k => decide (P 9 i k = some m ∧ ¬ I 8 i k ≤ now)) k n)
  | 0, _, x => by show x = x + nI 0; rw [nI_0, Int32.add_zero]
  | n + 1, k, x => by
    show hpL I P i m now n (k + 1) (if P 9 i k = some m ∧ ¬ I 8 i k ≤ now then x + 1 else x) = x + nI ((if decide (P 9 i k = some m ∧ ¬ I 8 i k ≤ now) = true then 1 else 0) + cnt (fun k => decide (P 9 i k = some m ∧ ¬ I 8 i k ≤ now)) (k + 1) n)
    rw [hpL_cnt n (k + 1)]
    by_cases h : P 9 i k = some m ∧ ¬ I 8 i k ≤ now
    · rw [if_pos h, if_pos (by simpa using h), ← nI_add, ← Int32.add_assoc]; rfl
    · rw [if_neg h, if_neg (by simpa using h), Nat.zero_add]
theorem tcI_cnt {x : Int32} {k : Nat} : ∀ (n t : Nat) (y : Int32), tcI J x k n t y = y + nI (cnt (fun t => decide (J 13 22 (1004 * k + t) = x + 1)) t n)
  | 0, _, y => by show y = y + nI 0; rw [nI_0, Int32.add_zero]
  | n + 1, t, y => by
    show tcI J x k n (t + 1) (y + if J 13 22 (1004 * k + t) = x + 1 then 1 else 0) = y + nI ((if decide (J 13 22 (1004 * k + t) = x + 1) = true then 1 else 0) + cnt (fun t => decide (J 13 22 (1004 * k + t) = x + 1)) (t + 1) n)
    rw [tcI_cnt n (t + 1)]
    by_cases h : J 13 22 (1004 * k + t) = x + 1
    · rw [if_pos h, if_pos (by simpa using h), ← nI_add, ← Int32.add_assoc]; rfl
    · rw [if_neg h, if_neg (by simpa using h), Nat.zero_add, Int32.add_zero]
theorem cnt_ring (S : Sim z nw I P J) {i m : Nat} (hi : i < 4) (hm : m < z.1) : cnt (fun k => decide (P 9 i k = some m ∧ ¬ I 8 i k ≤ nI nw)) 0 16 = cnt (fun t => decide (J 13 22 (1004 * i + t) = nI m + 1)) (nw + 1) (1003 - nw) := by
  obtain ⟨n1, n2, n3⟩ := S.A.n
  obtain ⟨R1, R2⟩ := S.D i hi
  have h12 := S.X.1
  have e1 : cnt (fun t => decide (J 13 22 (1004 * i + t) = nI m + 1)) (nw + 1) (1003 - nw) = cnt (fun t => decide (P 9 i (t % 16) = some m ∧ I 8 i (t % 16) = nI t)) (nw + 1) (1003 - nw) := by
    refine cnt_congr _ _ (fun t h1 h2 => ?_)
    obtain ⟨A, -⟩ := R1 t (by omega) (by omega)
    rw [A]
    have hb : ¬ nI t ≤ nI nw := nI_ge (by omega) (by omega)
    rcases hp : py I P i (nI t) (nI nw) with _ | q
    · have h3 : ¬ (oN none = nI m + 1) := by rw [nI_1]; exact fun q => nI_ne0 (n := m + 1) (by omega) (by omega) q.symm
      have h4 : ¬ (P 9 i (t % 16) = some m ∧ I 8 i (t % 16) = nI t) := fun q => by
        unfold py at hp
        rw [rg_nI (by omega), if_pos ⟨hb, q.2⟩, q.1] at hp
        cases hp
      rw [decide_eq_false h3, decide_eq_false h4]
    · obtain ⟨c1, c2, -⟩ := py_some hp
      rw [rg_nI (by omega)] at c1 c2
      have hq : q < z.1 := S.X.h9 (show wAl z 1 i from hi) (show t % 16 < 16 by omega) c1
      rw [c1, c2]
      show decide (nI (q + 1) = nI m + 1) = _
      rw [nI_1, decide_eq_decide, nI_eq (by omega) (by omega)]
      constructor
      · intro e; exact ⟨by rw [show q = m by omega], rfl⟩
      · rintro ⟨e, -⟩; cases e; rfl
  have hF : ∀ t, nw < t → t < 2 ^ 31 → (nw + 10 < t ∨ 1002 < t) → (decide (P 9 i (t % 16) = some m ∧ I 8 i (t % 16) = nI t)) = false := fun t h1 h2 h3 => decide_eq_false (fun q => by
    obtain ⟨t2, d1, d2, d3, d4⟩ := R2 (t % 16) m (by omega) q.1
    have : t = t2 := (nI_eq h2 (by omega)).mp (q.2.symm.trans d3)
    omega)
  have e2 : cnt (fun t => decide (P 9 i (t % 16) = some m ∧ I 8 i (t % 16) = nI t)) (nw + 1) (1003 - nw) = cnt (fun t => decide (P 9 i (t % 16) = some m ∧ I 8 i (t % 16) = nI t)) (nw + 1) 16 := by
    by_cases h : 16 ≤ 1003 - nw
    · have := cnt_ext (p := fun t => decide (P 9 i (t % 16) = some m ∧ I 8 i (t % 16) = nI t)) (a := nw + 1) (n := 16) (1003 - nw - 16) (fun t h1 h2 => hF t (by omega) (by omega) (by omega))
      rw [← this, show 16 + (1003 - nw - 16) = 1003 - nw by omega]
    · have := cnt_ext (p := fun t => decide (P 9 i (t % 16) = some m ∧ I 8 i (t % 16) = nI t)) (a := nw + 1) (n := 1003 - nw) (16 - (1003 - nw)) (fun t h1 h2 => hF t (by omega) (by omega) (by omega))
      rw [← this, show 1003 - nw + (16 - (1003 - nw)) = 16 by omega]
  have e3 : cnt (fun t => decide (P 9 i (t % 16) = some m ∧ I 8 i (t % 16) = nI t)) (nw + 1) 16 = cnt (fun t => (fun k => decide (P 9 i k = some m ∧ ¬ I 8 i k ≤ nI nw)) (t % 16)) (nw + 1) 16 := by
    refine cnt_congr _ _ (fun t h1 h2 => ?_)
    show decide (P 9 i (t % 16) = some m ∧ I 8 i (t % 16) = nI t) = decide (P 9 i (t % 16) = some m ∧ ¬ I 8 i (t % 16) ≤ nI nw)
    rw [decide_eq_decide]
    constructor
    · rintro ⟨a, b⟩; exact ⟨a, by rw [b]; exact nI_ge (by omega) (by omega)⟩
    · rintro ⟨a, b⟩
      refine ⟨a, ?_⟩
      obtain ⟨t2, d1, d2, d3, d4⟩ := R2 (t % 16) m (by omega) a
      rw [d3, nI_leI (by omega) (by omega)] at b
      have : t2 = t := by omega
      rw [d3, this]
  rw [e1, e2, e3]
  exact (cnt_mod (f := fun k => decide (P 9 i k = some m ∧ ¬ I 8 i k ≤ nI nw)) (nw + 1)).symm
theorem ph_loop (S : Sim z nw I P J) {m : Nat} (hm : m < z.1) : ∀ (n i : Nat) (x : Int32), i + n = 4 → phL I P m n i x = tcO J (nI m) nw n i x
  | 0, _, _, _ => rfl
  | n + 1, i, x, e => by
    show phL I P m n (i + 1) (x + hpL I P i m (I 0 0 6) 16 0 0) = tcO J (nI m) nw n (i + 1) (tcI J (nI m) i (1003 - nw) (nw + 1) x)
    rw [hpL_cnt, tcI_cnt, S.A.n.1, cnt_ring S (show i < 4 by omega) hm, Int32.zero_add]
    exact ph_loop S hm n (i + 1) _ (by omega)
theorem s_about (S : Sim z nw I P J) {x y : Int32} : OpR z z nw nw I I P P (cK15 z.1 x y) (cV15 I P x.toNatClampNeg y) (mO15 J z.1 nw x y) := by
  refine OpR.mk S cK15_eq (fun _ => by simp [upI_at, th]) (fun h => ?_)
  obtain ⟨i, k, hi, rfl, hc, hk, rfl⟩ := mK15_of h (by have := S.X.1; omega)
  refine ⟨?_, S.thr 0⟩
  rw [hc]
  obtain ⟨m0, m1, m2, m3, m4, m5, -⟩ := S.A.m hi
  unfold cV15 mV15 phO
  rw [m1, m2, m3, m4, m5, S.B i hi, S.A.e i hi, ph_loop (S.thr 0) hi 4 0 0 rfl]
end WSim12
