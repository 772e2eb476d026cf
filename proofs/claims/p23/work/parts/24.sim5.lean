section WSim5
variable {z z' : wZ} {nw nw' : Nat} {I I' : wI} {P P' : wP} {J J' : wI}
theorem mCmS_eq {h m k q p : Nat} {c : Int32} {J1 : wI} (hat : mAt J h k = q) (hp : mpy J q = p) (hc : (if p = 0 then J 13 3 (msp J h) else if p = m + 1 then 0 else J 13 23 q / 2) = c) (hJ1 : (if p = 0 ∨ p = m + 1 then J else upI J 13 11 (p - 1) (J 13 11 (p - 1) + J 13 23 q / 2)) = J1) : mCmS h m k J = upI (upI (upI (upI J1 13 22 q 0) 13 23 q 0) 13 21 (4 * h + k) c) 13 11 m (J1 13 11 m - c) := by
  subst hat
  subst hp
  subst hc
  subst hJ1
  unfold mCmS
  dsimp only
  refine congrArg (fun v => upI _ 13 11 m (v - _)) ?_
  simp [upI_at]
theorem mCmS_off {h m k f x : Nat} (h1 : f ≠ 11) (h2 : f ≠ 21) (h3 : f ≠ 22) (h4 : f ≠ 23) : mCmS h m k J 13 f x = J 13 f x := by
  rw [mCmS_eq rfl rfl rfl rfl, upI_at, if_neg (by omega), upI_at, if_neg (by omega), upI_at, if_neg (by omega), upI_at, if_neg (by omega)]
  split
  · rfl
  · rw [upI_at, if_neg (by omega)]
theorem tkP_congr {i : Nat} {x y : Int32} (h8 : I' 8 = I 8) : tkP I' P i x y = tkP I P i x y := by
  unfold tkP
  rw [py_congr (P' := P) h8 rfl]
theorem put_step {h m i f k : Nat} (p : PI z nw I P J h m k) (hh : h < z.2) (hi : i < 4) (e17 : J 13 17 h = nI i) (e18 : J 13 18 h = nI f) (hf : nw < f) (hf9 : f ≤ 999) (hk : k < 4) (hk2 : k < mh J h) : PI z nw (ptS i m h (nI f) (nI nw) k (I, P)).1 (ptS i m h (nI f) (nI nw) k (I, P)).2 (mCmS h m k J) h m (k + 1) := by
  have hsp : msp J h = i := by unfold msp; rw [e17]; exact nI_clamp (by omega)
  have hfr : mfr J h = f := by unfold mfr; rw [e18]; exact nI_clamp (by omega)
  have hat : mAt J h k = 1004 * i + (f + k) := by unfold mAt; rw [hsp, hfr]; omega
  have hX := p.1
  have hA := p.2.2.1
  have hD := p.2.2.2.2.2.2.2.2
  obtain ⟨e22, e23⟩ := (hD i hi).1 (f + k) (by omega) (by omega)
  have hI3 := (hA.i i hi).2
  unfold ptS
  show PI z nw (upI (tkI I P i m (nI f + nI k) (nI nw)) 11 h k (tkR I P i m (nI f + nI k) (nI nw))) (tkP I P i (nI f + nI k) (nI nw)) _ h m (k + 1)
  rw [nI_add]
  rcases hpy : py I P i (nI (f + k)) (nI nw) with _ | q
  · have hp0 : mpy J (1004 * i + (f + k)) = 0 := by unfold mpy; rw [e22, hpy]; rfl
    rw [mCmS_eq (c := J 13 3 i) (J1 := J) hat hp0 (by rw [hsp]; simp) (by simp)]
    have h1 : tkI I P i m (nI (f + k)) (nI nw) = I := by unfold tkI; rw [hpy]
    have h2 : tkR I P i m (nI (f + k)) (nI nw) = J 13 3 i := by unfold tkR; rw [hpy]; exact hI3
    rw [h1, h2]
    exact p.tail hh hi (by omega) hk hk2
  · have hqM : q < z.1 := hX.h9 (show wAl z 1 i from hi) (rg_lt _) (py_some hpy).1
    have hq12 : q < 12 := Nat.lt_of_lt_of_le hqM hX.1
    have hp0 : mpy J (1004 * i + (f + k)) = q + 1 := by unfold mpy; rw [e22, hpy]; exact nI_clamp (by omega)
    by_cases hqm : q = m
    · subst hqm
      rw [mCmS_eq (c := 0) (J1 := J) hat hp0 (by simp) (by simp)]
      have h1 : tkI I P i q (nI (f + k)) (nI nw) = I := by unfold tkI; rw [hpy]; simp
      have h2 : tkR I P i q (nI (f + k)) (nI nw) = 0 := by unfold tkR; rw [hpy]; simp
      rw [h1, h2]
      exact p.tail hh hi (by omega) hk hk2
    · have hr : I 10 i (rg (nI (f + k))) = J 13 23 (1004 * i + (f + k)) := by rw [e23 q hpy, rg_nI (by omega)]
      rw [mCmS_eq (c := J 13 23 (1004 * i + (f + k)) / 2) (J1 := upI J 13 11 q (J 13 11 q + J 13 23 (1004 * i + (f + k)) / 2)) hat hp0 (by simp [hqm]) (by simp [hqm])]
      have h1 : tkI I P i m (nI (f + k)) (nI nw) = upI I 2 q 6 (I 2 q 6 + J 13 23 (1004 * i + (f + k)) / 2) := by unfold tkI; rw [hpy, ← hr]; simp [hqm]
      have h2 : tkR I P i m (nI (f + k)) (nI nw) = J 13 23 (1004 * i + (f + k)) / 2 := by unfold tkR; rw [hpy, ← hr]; simp [hqm]
      rw [h1, h2, ← tkP_congr (I' := upI I 2 q 6 (I 2 q 6 + J 13 23 (1004 * i + (f + k)) / 2)) (upI_kind (by decide))]
      refine (p.bal hqM hqm rfl).tail hh hi (by omega) hk ?_
      unfold mh
      rw [upI_at, if_neg (by omega)]
      exact hk2
theorem put_loop {h m i f : Nat} (hh : h < z.2) (hi : i < 4) (hf : nw < f) (hf9 : f ≤ 999) : ∀ (n k : Nat) (s : wI × wP) (J : wI), PI z nw s.1 s.2 J h m k → J 13 17 h = nI i → J 13 18 h = nI f → mh J h = k + n → k + n ≤ 4 → PI z nw (ptL i m h (nI f) (nI nw) n k s).1 (ptL i m h (nI f) (nI nw) n k s).2 (mCmL h m n k J) h m (k + n) ∧ (mCmL h m n k J) 13 17 h = nI i ∧ mh (mCmL h m n k J) h = k + n ∧ mm (mCmL h m n k J) h = mm J h
  | 0, _, _, _, p, e17, e18, hm, h4 => ⟨p, e17, hm, rfl⟩
  | n + 1, k, s, J, p, e17, e18, hm, h4 => by
    have p2 := put_step (I := s.1) (P := s.2) p hh hi e17 e18 hf hf9 (by omega) (by omega)
    obtain ⟨a, b, c, d⟩ := put_loop hh hi hf hf9 n (k + 1) (ptS i m h (nI f) (nI nw) k s) (mCmS h m k J) p2 (by rw [mCmS_off (by decide) (by decide) (by decide) (by decide)]; exact e17) (by rw [mCmS_off (by decide) (by decide) (by decide) (by decide)]; exact e18) (by unfold mh at hm ⊢; rw [mCmS_off (by decide) (by decide) (by decide) (by decide)]; omega) (by omega)
    have ek : k + 1 + n = k + (n + 1) := by omega
    rw [ek] at a c
    exact ⟨a, b, c, d.trans (by unfold mm; rw [mCmS_off (by decide) (by decide) (by decide) (by decide)])⟩
theorem put0_step {h m k : Nat} (p : PI z nw I P J h m k) (hh : h < z.2) (hk : k < 4) (hk2 : k < mh J h) : PI z nw (upI I 11 h k 0) P (mC0S h m k J) h m (k + 1) := by
  obtain ⟨X, M, A, c1, c2, c3, c4, b1, d⟩ := p
  have hJ : ∀ f x, f ≠ 21 → mC0S h m k J 13 f x = J 13 f x := fun f x h2 => by
    unfold mC0S
    rw [upI_at]
    split
    · next e => obtain ⟨-, rfl, rfl⟩ := e; rw [upI_at, if_neg (by omega), Int32.sub_zero]
    · rw [upI_at, if_neg (by omega)]
  have h21 : ∀ x, mC0S h m k J 13 21 x = if x = 4 * h + k then 0 else J 13 21 x := fun x => by
    unfold mC0S
    simp [upI_at]
  have hmh : ∀ h', mh (mC0S h m k J) h' = mh J h' := fun h' => by
    unfold mh; rw [hJ _ _ (by decide)]
  have h11 : ∀ j x, upI I 11 h k 0 11 j x = if j = h ∧ x = k then 0 else I 11 j x := fun j x => by
    simp [upI_at]
  refine ⟨XI.upI X _ (by omega) (by omega) (by omega), (M.up _ (by omega)).up _ (by omega), A.of (fun k j c _ _ _ h1 h => by rw [upI_at, if_neg (by omega)]) (fun _ _ => rfl) (by unfold mC0S; simp [upI_at]) (fun f c _ h2 _ _ => hJ f c h2), ?_, ?_, ?_, ?_, ?_, d.of (upI_kind (by decide)) (upI_kind (by decide)) rfl (fun c => hJ _ _ (by decide)) (fun c => hJ _ _ (by decide))⟩
  · intro h' hh' hne
    obtain ⟨e1, e2⟩ := c1 h' hh' hne
    refine ⟨fun k' hk' => ?_, fun k' hk' hz => ?_⟩
    · rw [h21, h11, if_neg (by omega), if_neg (by omega)]; exact e1 k' hk'
    · rw [h21, if_neg (by omega)]
      refine e2 k' hk' ?_
      rw [hmh, hJ _ _ (by decide)] at hz
      exact hz
  · intro h' k' h1 h2 h3
    rw [h21, if_neg (by omega)]; exact c2 h' k' h1 h2 h3
  · intro k' hk'
    rw [h21, h11]
    by_cases e : k' = k
    · subst e; simp
    · rw [if_neg (by omega), if_neg (by omega)]; exact c3 k' (by omega)
  · intro k' h1 h2
    rw [hmh] at h1
    rw [h21, h11, if_neg (by omega), if_neg (by omega)]
    exact c4 k' h1 h2
  · intro m' hm'
    have hb := b1 m' hm'
    have hac : acL (upI I 11 h k 0 11 h) (k + 1) = acL (I 11 h) k := by
      show acL (upI I 11 h k 0 11 h) k + upI I 11 h k 0 11 h k = _
      rw [h11, if_pos ⟨rfl, rfl⟩, acL_eq (d := I 11 h) (fun k' hk' => by rw [h11, if_neg (by omega)]), Int32.add_zero]
    rw [hac, show upI I 11 h k 0 2 m' 6 = I 2 m' 6 from by rw [upI_at, if_neg (by omega)], hb, hJ _ _ (by decide)]
theorem put0_loop {h m : Nat} {v : Int32} (hh : h < z.2) : ∀ (n k : Nat) (I J : wI), PI z nw I P J h m k → (∀ k', k' < k → J 13 21 (4 * h + k') = 0) → J 13 17 h = v → mh J h = k + n → k + n ≤ 4 → PI z nw (p0L h n k I) P (mC0L h m n k J) h m (k + n) ∧ (∀ k', k' < k + n → (mC0L h m n k J) 13 21 (4 * h + k') = 0) ∧ (mC0L h m n k J) 13 17 h = v ∧ mh (mC0L h m n k J) h = k + n ∧ mm (mC0L h m n k J) h = mm J h
  | 0, _, _, _, p, hz, e17, hm, h4 => ⟨p, hz, e17, hm, rfl⟩
  | n + 1, k, I, J, p, hz, e17, hm, h4 => by
    have p2 := put0_step p hh (by omega) (by omega)
    have hJ : ∀ f x, f ≠ 21 → f ≠ 11 → mC0S h m k J 13 f x = J 13 f x := fun f x h2 h3 => by
      unfold mC0S
      rw [upI_at, if_neg (by omega), upI_at, if_neg (by omega)]
    have hz2 : ∀ k', k' < k + 1 → mC0S h m k J 13 21 (4 * h + k') = 0 := fun k' hk' => by
      unfold mC0S
      rw [upI_at, if_neg (by omega), upI_at]
      split
      · rfl
      · exact hz k' (by omega)
    obtain ⟨a, b, c, d, e⟩ := put0_loop (v := v) hh n (k + 1) (upI I 11 h k 0) (mC0S h m k J) p2 hz2 (by rw [hJ _ _ (by decide) (by decide)]; exact e17) (by unfold mh at hm ⊢; rw [hJ _ _ (by decide) (by decide)]; omega) (by omega)
    have ek : k + 1 + n = k + (n + 1) := by omega
    rw [ek] at a b d
    exact ⟨a, b, c, d, e.trans (by unfold mm; rw [hJ _ _ (by decide) (by decide)])⟩
theorem put_end {h m : Nat} (p : PI z nw I P J h m (mh J h)) (hh : h < z.2) (hz : J 13 17 h = -1 → ∀ k, k < mh J h → J 13 21 (4 * h + k) = 0) : Sim z nw (putB I m h) P J := by
  obtain ⟨X, M, A, c1, c2, c3, c4, b1, d⟩ := p
  have h4 := M.hr4 hh
  have h11 : putB I m h 11 = I 11 := upI_kind (by decide)
  refine ⟨XI.upI X _ (by omega) (by omega) (by omega), M, A.of (fun k j c _ _ _ _ h => by unfold putB; rw [upI_at, if_neg (by omega)]) (fun _ _ => rfl) rfl (fun _ _ _ _ _ _ => rfl), ⟨fun h' hh' => ?_, c2⟩, fun m' hm' => ?_, d.of (upI_kind (by decide)) (upI_kind (by decide)) rfl (fun _ => rfl) (fun _ => rfl)⟩
  · by_cases e : h' = h
    · subst e
      refine ⟨fun k hk => ?_, fun k hk ho => ?_⟩
      · rw [h11]
        by_cases hlt : k < mh J h'
        · exact c3 k hlt
        · obtain ⟨e1, e2⟩ := c4 k (by omega) hk
          rw [e1, e2]
      · by_cases hlt : k < mh J h'
        · rcases ho with ho | ho
          · omega
          · exact hz ho k hlt
        · exact (c4 k (by omega) hk).2
    · have := c1 h' hh' e
      simpa only [HC, h11] using this
  · have hb := b1 m' hm'
    unfold putB
    rw [upI_at]
    by_cases e : m' = m
    · subst e
      rw [if_pos rfl] at hb
      rw [if_pos ⟨rfl, rfl, rfl⟩, hb, chg_acL, acL_4 h4 (fun k h1 h2 => (c4 k h1 h2).1), Int32.add_sub_cancel]
    · rw [if_neg e] at hb
      rw [if_neg (by omega), hb]
/-- a hearing comes to its hours -/
theorem put_sim {h m f : Nat} {r w a : Int32} (p : PI z nw (sA I h r w a) P J h m 0) (hh : h < z.2) (hm : mm J h = m) (hmx : mx P h = m) (hhr : hrN I h = mh J h) (hnow : I 0 0 6 = nI nw) (e17 : J 13 17 h = w) (e18 : J 13 18 h = a) (ha : a = nI f) (hf : nw < f) (hf9 : f ≤ 999) (hw : w = -1 ∨ ∃ s, s < 4 ∧ w = nI s) : Sim z nw (putC I P h r w a).1 (putC I P h r w a).2 (mCm h J) := by
  have h4 := p.2.1.hr4 hh
  unfold putC mCm
  rw [e17, hm]
  rcases hw with hw | ⟨s, hs, hw⟩
  · rw [if_pos (by rw [hw]; exact Or.inl (by decide)), if_pos hw]
    show Sim z nw (putB (p0L h (hrN I h) 0 (sA I h r w a)) (mx P h) h) P _
    rw [hmx, hhr]
    obtain ⟨p2, hz, e1, e2, e3⟩ := put0_loop (v := w) hh (mh J h) 0 _ _ p (fun k' hk => absurd hk (by omega)) e17 (by omega) (by omega)
    rw [Nat.zero_add] at p2 hz e2
    refine put_end ?_ hh (fun _ k hk => ?_)
    · rw [e2]; exact p2
    · rw [e2] at hk; exact hz k hk
  · have h1 : ¬ (w < 0 ∨ 4 ≤ w) := by rw [hw]; exact fun q => q.elim (nI_pos (by omega)) (nI_ge (b := 4) hs (by decide))
    have h2 : ¬ w = -1 := by rw [hw]; exact nI_nm1 (by omega)
    have hc : w.toNatClampNeg = s := by rw [hw]; exact nI_clamp (by omega)
    rw [if_neg h1, if_neg h2, hc]
    unfold putS
    rw [hmx, hhr, hnow]
    show Sim z nw (putB (ptL s m h a (nI nw) (mh J h) 0 (sA I h r w a, P)).1 m h) (ptL s m h a (nI nw) (mh J h) 0 (sA I h r w a, P)).2 _
    obtain ⟨p2, e1, e2, e3⟩ := put_loop hh hs hf hf9 (mh J h) 0 (sA I h r w a, P) J p (e17.trans hw) (e18.trans ha) (by omega) (by omega)
    rw [Nat.zero_add] at p2 e2
    rw [← ha] at p2
    refine put_end ?_ hh (fun q => absurd (q.symm.trans e1).symm (nI_nm1 (by omega)))
    rw [e2]; exact p2
end WSim5
