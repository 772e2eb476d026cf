section WSim3
variable {z z' : wZ} {nw nw' : Nat} {I I' : wI} {P P' : wP} {J J' : wI}
theorem py_keep {i i0 t t' m : Nat} {a b : Int32} (ht : t < 2 ^ 31) (ht' : t' < 2 ^ 31) : py (kpI I i0 (nI t) a) (kpP P i0 m (nI t)) i (nI t') b = if i = i0 ∧ t' % 16 = t % 16 then (if ¬ nI t' ≤ b ∧ nI t = nI t' then some m else none) else py I P i (nI t') b := by
  unfold py kpI kpP
  rw [rg_nI ht, rg_nI ht']
  by_cases h : i = i0 ∧ t' % 16 = t % 16
  · obtain ⟨rfl, h2⟩ := h
    simp [upI_at, upP_at, h2]
  · simp [upI_at, upP_at, h]
theorem PR.keep {i i0 t m : Nat} {a : Int32} (R : PR I P J nw i) (hi : i < 4) (hi0 : i0 < 4) (ht : nw < t) (ht2 : t ≤ nw + 10) (ht3 : t ≤ 1002) : PR (kpI I i0 (nI t) a) (kpP P i0 m (nI t)) (upI (upI J 13 22 (1004 * i0 + t) (nI m + 1)) 13 23 (1004 * i0 + t) a) nw i := by
  obtain ⟨R1, R2⟩ := R
  refine ⟨fun t' h1 h2 => ?_, fun p q hp hq => ?_⟩
  · have hb : ¬ nI t' ≤ nI nw := nI_ge h1 (by omega)
    obtain ⟨A, B⟩ := R1 t' h1 h2
    rw [py_keep (by omega) (by omega)]
    by_cases h : i = i0 ∧ t' % 16 = t % 16
    · obtain ⟨rfl, h3⟩ := h
      rw [if_pos ⟨rfl, h3⟩]
      by_cases e : t = t'
      · subst e
        rw [if_pos ⟨hb, rfl⟩]
        refine ⟨?_, fun q hq => ?_⟩
        · simp [upI_at, oN, nI_1]
        · unfold kpI; rw [rg_nI (by omega)]; simp [upI_at]
      · have e2 : ¬ nI t = nI t' := fun q => e ((nI_eq (by omega) (by omega)).mp q)
        rw [if_neg (fun q => e2 q.2)]
        refine ⟨?_, fun q hq => by cases hq⟩
        have hn : py I P i (nI t') (nI nw) = none := by
          rcases hpy : py I P i (nI t') (nI nw) with _ | q
          · rfl
          · exfalso
            obtain ⟨c1, c2, -⟩ := py_some hpy
            rw [rg_nI (by omega)] at c1 c2
            obtain ⟨t2, d1, d2, d3, d4⟩ := R2 (t' % 16) q (by omega) c1
            have : t' = t2 := (nI_eq (by omega) (by omega)).mp (c2.symm.trans d3)
            omega
        rw [hn] at A
        rw [upI_at, if_neg (by omega), upI_at, if_neg (by omega), A]
    · rw [if_neg h]
      have hne : ¬ (1004 * i + t' = 1004 * i0 + t) := fun q => h (by
        have e1 : i = i0 := by omega
        have e2 : t' = t := by omega
        exact ⟨e1, by rw [e2]⟩)
      refine ⟨?_, fun q hq => ?_⟩
      · rw [upI_at, if_neg (by omega), upI_at, if_neg (by omega), A]
      · unfold kpI
        rw [rg_nI (by omega), upI_at, if_neg (by omega), upI_at, if_neg (by omega), upI_at, if_neg (by omega), upI_at, if_neg (by omega)]
        exact B q hq
  · unfold kpI kpP at *
    rw [rg_nI (by omega)] at hq ⊢
    rw [upP_at] at hq
    rw [upI_at, if_neg (by omega), upI_at]
    by_cases h : i = i0 ∧ p = t % 16
    · obtain ⟨rfl, rfl⟩ := h
      exact ⟨t, ht3, rfl, by simp, ht2⟩
    · rw [if_neg (by omega)] at hq
      rw [if_neg (by omega)]
      exact R2 p q hp hq
theorem sub_lt8 {f nw : Nat} (hf : f < 2 ^ 30) (hn : nw < 2 ^ 30) : nI f - nI nw < 8 ↔ f < nw + 8 := by
  rw [Int32.lt_iff_toInt_lt, pk_sub_toInt hf hn, show (8 : Int32).toInt = 8 from by decide]
  omega
theorem leave_step (S : Sim z nw I P J) {h m i f k : Nat} (hh : h < z.2) (hm : m < z.1) (hi : i < 4) (e18 : J 13 18 h = nI f) (e17 : J 13 17 h = nI i) (hf : nw < f) (hf8 : f < nw + 8) (hf9 : f ≤ 999) (hk : k < 4) : Sim z nw (lvS i m h k (I, P)).1 (lvS i m h k (I, P)).2 (mLvS h m k J) ∧ (mLvS h m k J) 13 18 h = nI f ∧ (mLvS h m k J) 13 17 h = nI i := by
  have hX := S.X.kp (i := i) (x := nI (f + k)) (y := J 13 21 (4 * h + k)) hm
  obtain ⟨n1, n2, n3⟩ := S.A.n
  have a7 := (S.A.h hh).2.2.2.2.2.2.1
  have hc := (S.C.1 h hh).1 k hk
  have hsp : msp J h = i := by unfold msp; rw [e17]; exact nI_clamp (by omega)
  have hfr : mfr J h = f := by unfold mfr; rw [e18]; exact nI_clamp (by omega)
  have hat : mAt J h k = 1004 * i + (f + k) := by unfold mAt; rw [hsp, hfr]; omega
  unfold lvS mLvS
  rw [e18, n2, if_pos ((sub_lt8 (by omega) (by omega)).mpr hf8), hat, show upI J 13 22 (1004 * i + (f + k)) (nI m + 1) 13 21 (4 * h + k) = J 13 21 (4 * h + k) from by rw [upI_at, if_neg (by omega)]]
  show Sim z nw (kpI I i (I 3 h 7 + nI k) (I 11 h k)) (kpP P i m (I 3 h 7 + nI k)) _ ∧ _
  rw [a7, e18, nI_add, hc]
  refine ⟨S.of (fun k _ => k = 8 ∨ k = 10) (fun f => f = 22 ∨ f = 23) (fun k j c _ h => by unfold kpI; rw [upI_at, if_neg (by omega), upI_at, if_neg (by omega)]) (fun f c h => by rw [upI_at, if_neg (by omega), upI_at, if_neg (by omega)]) (fun k h => upP_kind h) hX ((S.M.up22 (p := m + 1) (by omega) (nI_1 m)).up _ (by omega)) (Or.inl ⟨by simp, by rw [upI_at, if_neg (by omega), upI_at, if_neg (by omega)]⟩) (Or.inl (by simp)) (Or.inl (by simp)) (Or.inl (by simp)) (Or.inl (by simp)) (Or.inl (by simp)) (Or.inl (by simp)) (Or.inl (by simp)) (Or.inl (by simp)) (Or.inl (by simp)) (Or.inl (by simp)) (Or.inr fun i' hi' => ?_), ?_, ?_⟩
  · exact (S.D i' hi').keep hi' hi (by omega) (by omega) (by omega)
  · rw [upI_at, if_neg (by omega), upI_at, if_neg (by omega)]; exact e18
  · rw [upI_at, if_neg (by omega), upI_at, if_neg (by omega)]; exact e17
theorem leave_loop {h m i f : Nat} (hh : h < z.2) (hm : m < z.1) (hi : i < 4) (hf : nw < f) (hf8 : f < nw + 8) (hf9 : f ≤ 999) : ∀ (n k : Nat) (s : wI × wP) (J : wI), Sim z nw s.1 s.2 J → J 13 18 h = nI f → J 13 17 h = nI i → k + n ≤ 4 → Sim z nw (lvL i m h n k s).1 (lvL i m h n k s).2 (mLvL h m n k J)
  | 0, _, _, _, S, _, _, _ => S
  | n + 1, k, s, J, S, e18, e17, hk => by
    obtain ⟨S2, e18', e17'⟩ := leave_step (I := s.1) (P := s.2) S hh hm hi e18 e17 hf hf8 hf9 (show k < 4 by omega)
    exact leave_loop hh hm hi hf hf8 hf9 n (k + 1) _ _ S2 e18' e17' (by omega)
def acL (c : Nat → Int32) : Nat → Int32
  | 0 => 0
  | k + 1 => acL c k + c k
theorem acL_eq {c d : Nat → Int32} : ∀ {n : Nat}, (∀ k, k < n → c k = d k) → acL c n = acL d n
  | 0, _ => rfl
  | n + 1, h => by unfold acL; rw [acL_eq (fun k hk => h k (by omega)), h n (by omega)]
theorem acL_4 {c : Nat → Int32} {n : Nat} (hn : n ≤ 4) (h : ∀ k, n ≤ k → k < 4 → c k = 0) : acL c 4 = acL c n := by
  have hz : ∀ k, n ≤ k → k < 4 → acL c (k + 1) = acL c k := fun k h1 h2 => by show acL c k + c k = _; rw [h k h1 h2, Int32.add_zero]
  rcases (by omega : n = 0 ∨ n = 1 ∨ n = 2 ∨ n = 3 ∨ n = 4) with rfl | rfl | rfl | rfl | rfl
  · rw [hz 3 (by omega) (by omega), hz 2 (by omega) (by omega), hz 1 (by omega) (by omega), hz 0 (by omega) (by omega)]
  · rw [hz 3 (by omega) (by omega), hz 2 (by omega) (by omega), hz 1 (by omega) (by omega)]
  · rw [hz 3 (by omega) (by omega), hz 2 (by omega) (by omega)]
  · rw [hz 3 (by omega) (by omega)]
  · rfl
theorem chg_acL (I : wI) (h : Nat) : chg I h = acL (I 11 h) 4 := rfl
theorem upI_up (I : wI) (a b j : Nat) (x y : Int32) : upI (upI I a b j x) a b j y = upI I a b j y := by
  funext k i c
  rw [upI_at, upI_at, upI_at]
  split <;> rfl
theorem far_loop {h m : Nat} {b : Int32} {J : wI} (hfar : ¬ J 13 18 h - J 12 0 1 < 8) : ∀ (n k : Nat), mLvL h m n k (upI J 13 11 m (b + acL (fun k => J 13 21 (4 * h + k)) k)) = upI J 13 11 m (b + acL (fun k => J 13 21 (4 * h + k)) (k + n))
  | 0, _ => rfl
  | n + 1, k => by
    show mLvL h m n (k + 1) (mLvS h m k (upI J 13 11 m (b + acL (fun k => J 13 21 (4 * h + k)) k))) = _
    have e : mLvS h m k (upI J 13 11 m (b + acL (fun k => J 13 21 (4 * h + k)) k)) = upI J 13 11 m (b + acL (fun k => J 13 21 (4 * h + k)) (k + 1)) := by
      unfold mLvS
      rw [show upI J 13 11 m (b + acL (fun k => J 13 21 (4 * h + k)) k) 13 18 h = J 13 18 h from by rw [upI_at, if_neg (by omega)], show upI J 13 11 m (b + acL (fun k => J 13 21 (4 * h + k)) k) 12 0 1 = J 12 0 1 from by rw [upI_at, if_neg (by omega)], if_neg hfar, upI_up, show upI J 13 11 m (b + acL (fun k => J 13 21 (4 * h + k)) k) 13 21 (4 * h + k) = J 13 21 (4 * h + k) from by rw [upI_at, if_neg (by omega)], show upI J 13 11 m (b + acL (fun k => J 13 21 (4 * h + k)) k) 13 11 m = b + acL (fun k => J 13 21 (4 * h + k)) k from by rw [upI_at, if_pos ⟨rfl, rfl, rfl⟩], Int32.add_assoc]
      rfl
    rw [e, far_loop hfar n (k + 1)]
    congr 3
    omega
/-- a hearing that is to come leaves its hours -/
theorem leave_sim (S : Sim z nw I P J) {h : Nat} (hh : h < z.2) (hf : nw < mfr J h) : Sim z nw (lvR I P h).1 (lvR I P h).2 (mLv h J) := by
  obtain ⟨n1, n2, n3⟩ := S.A.n
  obtain ⟨-, -, a2, -, -, a6, a7, -, -⟩ := S.A.h hh
  obtain ⟨e18, hf9⟩ := S.M.fr hh
  obtain ⟨c1, c2⟩ := S.C.1 h hh
  have hhr4 := S.M.hr4 hh
  have hmx := S.mxe hh
  have hmM := S.mmM hh
  have hle : ¬ J 13 18 h ≤ J 12 0 1 := by rw [e18, n2]; exact nI_ge hf (by omega)
  unfold lvR mLv
  rw [hmx, S.hr hh, a6, a7, n1]
  rcases S.M.sp hh with e17 | ⟨e17, hs⟩
  · rw [if_pos (Or.inl e17), e17]
    have hz : chg I h = 0 := by
      rw [chg_acL, acL_eq (d := fun _ => 0) (fun k hk => by rw [c1 k hk, c2 k hk (Or.inr e17)])]
      rfl
    split
    · rw [if_pos (Or.inl (by decide))]; exact S
    · rw [hz, Int32.add_zero, upI_self]; exact S
  · have hn : ¬ J 13 17 h = -1 := by rw [e17]; exact nI_nm1 (by omega)
    rw [if_neg (c := J 13 17 h = -1 ∨ J 13 18 h ≤ J 12 0 1) (fun q => q.elim hn hle), e18]
    by_cases h8 : mfr J h < nw + 8
    · rw [if_pos ((sub_lt8 (by omega) (by omega)).mpr h8), e17, if_neg (fun q => q.elim (nI_pos (by omega)) (nI_ge (b := 4) hs (by decide))), nI_clamp (by omega)]
      exact leave_loop hh hmM hs hf h8 hf9 (mh J h) 0 (I, P) J S e18 e17 (by omega)
    · have h8' : ¬ nI (mfr J h) - nI nw < 8 := fun q => h8 ((sub_lt8 (by omega) (by omega)).mp q)
      rw [if_neg h8']
      have hfl := far_loop (h := h) (m := mm J h) (b := J 13 11 (mm J h)) (J := J) (by rw [e18, n2]; exact h8') (mh J h) 0
      rw [show acL (fun k => J 13 21 (4 * h + k)) 0 = 0 from rfl, Int32.add_zero, upI_self, Nat.zero_add] at hfl
      rw [hfl]
      refine S.bal ?_
      rw [S.B _ hmM, chg_acL, acL_eq c1, acL_4 hhr4 (fun k h1 h2 => c2 k h2 (Or.inl h1))]
end WSim3
