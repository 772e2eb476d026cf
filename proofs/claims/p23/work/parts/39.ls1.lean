section WLs1
variable {ex ex' : Nat → Prop} {z : wZ} {nw : Nat} {J J' : wI} {L L' : wR}
theorem YM.of {M : Nat} (S : YM M J L) (hL : L' 0 = L 0) (hJ : ∀ f c, 6 ≤ f → f ≤ 12 → J' 13 f c = J 13 f c) : YM M J' L' := by
  have h6 := fun c => hJ 6 c (by decide) (by decide)
  have h7 := fun c => hJ 7 c (by decide) (by decide)
  have h8 := fun c => hJ 8 c (by decide) (by decide)
  have h9 := fun c => hJ 9 c (by decide) (by decide)
  have h10 := fun c => hJ 10 c (by decide) (by decide)
  have h11 := fun c => hJ 11 c (by decide) (by decide)
  have h12 := fun c => hJ 12 c (by decide) (by decide)
  simpa only [YM, stN, lgN, hL, h6, h7, h8, h9, h10, h11, h12] using S
theorem YA.of {N : Nat} (S : YA N J L) (hL : L' 1 = L 1) (hJ : ∀ f c, 14 ≤ f → f ≤ 20 → J' 13 f c = J 13 f c) : YA N J' L' := by
  have h14 := fun c => hJ 14 c (by decide) (by decide)
  have h15 := fun c => hJ 15 c (by decide) (by decide)
  have h16 := fun c => hJ 16 c (by decide) (by decide)
  have h17 := fun c => hJ 17 c (by decide) (by decide)
  have h18 := fun c => hJ 18 c (by decide) (by decide)
  have h19 := fun c => hJ 19 c (by decide) (by decide)
  have h20 := fun c => hJ 20 c (by decide) (by decide)
  simpa only [YA, mm, mh, rmN, spN, ntN, hsN, hL, h14, h15, h16, h17, h18, h19, h20] using S
theorem YC.of (S : YC J L) (hL : L' 2 = L 2) (hJ : ∀ c, J' 13 21 c = J 13 21 c) : YC J' L' := by
  simpa only [YC, chN, hL, hJ] using S
theorem YW.of (S : YW J L) (hL : L' 5 = L 5) (h2 : ∀ c, J' 13 2 c = J 13 2 c) (h3 : ∀ c, J' 13 3 c = J 13 3 c) (h4 : ∀ c, J' 13 4 c = J 13 4 c) : YW J' L' := by
  simpa only [YW, prN, hL, h2, h3, h4] using S
theorem YQ.of (S : YQ z nw J L) (hL : L' 6 = L 6) (hn : J' 12 0 1 = J 12 0 1) : YQ z nw J' L' := by
  simpa only [YQ, hL, hn] using S
theorem YV.of (S : YV nw J) (h : ∀ c, J' 13 22 c = J 13 22 c) : YV nw J' := by
  simpa only [YV, mpy, h] using S
theorem YAm.of (S : YAm J) (h : ∀ c, J' 13 23 c = J 13 23 c) : YAm J' := by
  simpa only [YAm, amN, h] using S
theorem YP.of {N : Nat} (S : YP ex N nw J) (hJ : ∀ f c, f = 14 ∨ f = 17 ∨ f = 18 ∨ f = 19 ∨ f = 22 → J' 13 f c = J 13 f c) : YP ex N nw J' := by
  have h14 := fun c => hJ 14 c (by decide)
  have h17 := fun c => hJ 17 c (by decide)
  have h18 := fun c => hJ 18 c (by decide)
  have h19 := fun c => hJ 19 c (by decide)
  have h22 := fun c => hJ 22 c (by decide)
  simpa only [YP, mh, msp, mfr, mpy, h14, h17, h18, h19, h22] using S
theorem YS.of (S : YS ex z nw J L) (DJ DL : Nat → Prop) (hJ : ∀ f c, ¬ DJ f → J' 13 f c = J 13 f c) (hL : ∀ r, ¬ DL r → L' r = L r) (hn : J' 12 0 1 = J 12 0 1) (dq : ¬ DL 6)
    (m : (¬ DL 0 ∧ ∀ f, 6 ≤ f → f ≤ 12 → ¬ DJ f) ∨ YM z.1 J' L')
    (a : (¬ DL 1 ∧ ∀ f, 14 ≤ f → f ≤ 20 → ¬ DJ f) ∨ YA z.2 J' L')
    (c : (¬ DL 2 ∧ ¬ DJ 21) ∨ YC J' L')
    (w : (¬ DL 5 ∧ ¬ DJ 2 ∧ ¬ DJ 3 ∧ ¬ DJ 4) ∨ YW J' L')
    (u : (¬ DL 3 ∧ ¬ DL 4 ∧ ¬ DJ 22 ∧ ¬ DJ 23) ∨ (YU nw J' L' ∧ YV nw J' ∧ YAm J'))
    (p : (∀ f, f = 14 ∨ f = 17 ∨ f = 18 ∨ f = 19 ∨ f = 22 → ¬ DJ f) ∨ YP ex z.2 nw J') : YS ex z nw J' L' := by
  refine ⟨?_, ?_, ?_, ?_, S.q.of (hL 6 dq) hn, ?_, ?_, ?_, ?_⟩
  · rcases m with ⟨h1, h2⟩ | m
    · exact S.m.of (hL 0 h1) (fun f c h3 h4 => hJ f c (h2 f h3 h4))
    · exact m
  · rcases a with ⟨h1, h2⟩ | a
    · exact S.a.of (hL 1 h1) (fun f c h3 h4 => hJ f c (h2 f h3 h4))
    · exact a
  · rcases c with ⟨h1, h2⟩ | c
    · exact S.c.of (hL 2 h1) (fun c => hJ 21 c h2)
    · exact c
  · rcases w with ⟨h1, h2, h3, h4⟩ | w
    · exact S.w.of (hL 5 h1) (fun c => hJ 2 c h2) (fun c => hJ 3 c h3) (fun c => hJ 4 c h4)
    · exact w
  · rcases u with ⟨h1, h2, h3, h4⟩ | u
    · exact S.u.same (fun q _ => by unfold mpy; rw [hJ 22 q h3]) (fun q _ => by unfold amN; rw [hJ 23 q h4]) S.q.2.2.2.2 (hL 3 h1) (hL 4 h2)
    · exact u.1
  · rcases u with ⟨h1, h2, h3, h4⟩ | u
    · exact S.v.of (fun c => hJ 22 c h3)
    · exact u.2.1
  · rcases u with ⟨h1, h2, h3, h4⟩ | u
    · exact S.am.of (fun c => hJ 23 c h4)
    · exact u.2.2
  · rcases p with h | p
    · exact S.p.of (fun f c hf => hJ f c (h f hf))
    · exact p
theorem YQ.n {z : wZ} (S : YQ z nw J L) : J 12 0 1 = nI nw := S.2.2.2.1
/-- the row of a matter, a number of it written -/
def upR (L : wR) (r k : Nat) (v : Int32) : wR := fun a => if a = r then upd (L a) k v else L a
theorem upR_at (L : wR) (r k : Nat) (v : Int32) (j c : Nat) : upR L r k v j c = if j = r ∧ c = k then v else L j c := upL_N j c
theorem upR_off {L : wR} {r k j : Nat} {v : Int32} (h : j ≠ r) : upR L r k v j = L j := if_neg h
theorem upI_13 (I : wI) (r k : Nat) (v : Int32) : upI I 13 r k v 13 = upR (I 13) r k v := by
  funext j c
  rw [upI_at, upR_at]
  by_cases h : j = r ∧ c = k
  · rw [if_pos h, if_pos ⟨rfl, h⟩]
  · rw [if_neg h, if_neg (fun q => h q.2)]
theorem upI_k {I : wI} {r k j : Nat} {v : Int32} (h : j ≠ 13) : upI I 13 r k v j = I j := upI_kind h
/-- one number of one matter: f its row in the reference, 8 m + d its place in the law -/
theorem YM.put {M m d f : Nat} {v : Int32} (S : YM M J L) (hm : m < M) (hd : (d = 0 ∧ f = 6 ∧ v = nI v.toNatClampNeg ∧ v.toNatClampNeg ≤ 5) ∨ (d = 5 ∧ f = 11) ∨ (d = 6 ∧ f = 12)) : YM M (upI J 13 f m v) (upR L 0 (8 * m + d) v) := by
  obtain ⟨h8, h1, h2, h3⟩ := S
  refine ⟨h8, fun k hk => ?_, fun k hk hk2 => ?_, fun k hk => by rw [upI_at, if_neg (by omega)]; exact h3 k hk⟩
  · obtain ⟨a0, a1, a2, a3, a4, a5, a6, a7, a8, a9, a10⟩ := h1 k hk
    have hr : ∀ e, e < 8 → upR L 0 (8 * m + d) v 0 (8 * k + e) = if k = m ∧ e = d then v else L 0 (8 * k + e) := fun e he => by
      rw [upR_at]
      by_cases q : k = m ∧ e = d
      · rw [if_pos q, if_pos ⟨rfl, by omega⟩]
      · rw [if_neg q, if_neg (by omega)]
    have hj : ∀ g, upI J 13 f m v 13 g k = if k = m ∧ g = f then v else J 13 g k := fun g => by
      rw [upI_at]
      by_cases q : k = m ∧ g = f
      · rw [if_pos q, if_pos ⟨rfl, q.2, q.1⟩]
      · rw [if_neg q, if_neg (fun q2 => q ⟨q2.2.2, q2.2.1⟩)]
    have hr0 := hr 0 (by decide)
    rw [Nat.add_zero] at hr0
    unfold stN lgN
    rw [hr0, hr 1 (by decide), hr 2 (by decide), hr 3 (by decide), hr 4 (by decide), hr 5 (by decide), hr 6 (by decide), hj 6, hj 7, hj 8, hj 9, hj 10, hj 11, hj 12]
    rcases hd with ⟨rfl, rfl, hv, hv2⟩ | ⟨rfl, rfl⟩ | ⟨rfl, rfl⟩
    · by_cases e : k = m
      · subst e
        simp only [true_and, if_true, show (1 : Nat) = 0 ↔ False by decide, show (2 : Nat) = 0 ↔ False by decide, show (3 : Nat) = 0 ↔ False by decide, show (4 : Nat) = 0 ↔ False by decide, show (5 : Nat) = 0 ↔ False by decide, show (6 : Nat) = 0 ↔ False by decide, show (7 : Nat) = 6 ↔ False by decide, show (8 : Nat) = 6 ↔ False by decide, show (9 : Nat) = 6 ↔ False by decide, show (10 : Nat) = 6 ↔ False by decide, show (11 : Nat) = 6 ↔ False by decide, show (12 : Nat) = 6 ↔ False by decide, if_false]
        exact ⟨a1, a2, a3, a4, a5, a6, hv, hv2, a9, a10⟩
      · simp only [e, false_and, if_false]
        exact ⟨a0, a1, a2, a3, a4, a5, a6, a7, a8, a9, a10⟩
    · by_cases e : k = m
      · subst e
        simp only [true_and, if_true, show (0 : Nat) = 5 ↔ False by decide, show (1 : Nat) = 5 ↔ False by decide, show (2 : Nat) = 5 ↔ False by decide, show (3 : Nat) = 5 ↔ False by decide, show (4 : Nat) = 5 ↔ False by decide, show (6 : Nat) = 5 ↔ False by decide, show (6 : Nat) = 11 ↔ False by decide, show (7 : Nat) = 11 ↔ False by decide, show (8 : Nat) = 11 ↔ False by decide, show (9 : Nat) = 11 ↔ False by decide, show (10 : Nat) = 11 ↔ False by decide, show (12 : Nat) = 11 ↔ False by decide, if_false]
        exact ⟨a0, a1, a2, a3, a4, a6, a7, a8, a9, a10⟩
      · simp only [e, false_and, if_false]
        exact ⟨a0, a1, a2, a3, a4, a5, a6, a7, a8, a9, a10⟩
    · by_cases e : k = m
      · subst e
        simp only [true_and, if_true, show (0 : Nat) = 6 ↔ False by decide, show (1 : Nat) = 6 ↔ False by decide, show (2 : Nat) = 6 ↔ False by decide, show (3 : Nat) = 6 ↔ False by decide, show (4 : Nat) = 6 ↔ False by decide, show (5 : Nat) = 6 ↔ False by decide, show (6 : Nat) = 12 ↔ False by decide, show (7 : Nat) = 12 ↔ False by decide, show (8 : Nat) = 12 ↔ False by decide, show (9 : Nat) = 12 ↔ False by decide, show (10 : Nat) = 12 ↔ False by decide, show (11 : Nat) = 12 ↔ False by decide, if_false]
        exact ⟨a0, a1, a2, a3, a4, a5, a7, a8, a9, a10⟩
      · simp only [e, false_and, if_false]
        exact ⟨a0, a1, a2, a3, a4, a5, a6, a7, a8, a9, a10⟩
  · rw [upR_at, if_neg (by omega)]
    exact h2 k hk hk2
theorem YS.bal {m : Nat} {v : Int32} (S : YS ex z nw J L) (hm : m < z.1) : YS ex z nw (upI J 13 11 m v) (upR L 0 (8 * m + 5) v) :=
  S.of (fun f => f = 11) (fun r => r = 0) (fun f c h => by rw [upI_at, if_neg (by omega)]) (fun r h => upR_off h) (by rw [upI_at, if_neg (by omega)]) (by decide) (Or.inr (S.m.put hm (Or.inr (Or.inl ⟨rfl, rfl⟩)))) (Or.inl ⟨by decide, fun f h1 h2 => by omega⟩) (Or.inl ⟨by decide, by decide⟩) (Or.inl ⟨by decide, by decide, by decide, by decide⟩) (Or.inl ⟨by decide, by decide, by decide, by decide⟩) (Or.inl (fun f h => by omega))
theorem YS.st {m : Nat} {v : Int32} (S : YS ex z nw J L) (hm : m < z.1) (hv : v = nI v.toNatClampNeg) (hv5 : v.toNatClampNeg ≤ 5) : YS ex z nw (upI J 13 6 m v) (upR L 0 (8 * m) v) :=
  S.of (fun f => f = 6) (fun r => r = 0) (fun f c h => by rw [upI_at, if_neg (by omega)]) (fun r h => upR_off h) (by rw [upI_at, if_neg (by omega)]) (by decide) (Or.inr (S.m.put (d := 0) hm (Or.inl ⟨rfl, rfl, hv, hv5⟩))) (Or.inl ⟨by decide, fun f h1 h2 => by omega⟩) (Or.inl ⟨by decide, by decide⟩) (Or.inl ⟨by decide, by decide, by decide, by decide⟩) (Or.inl ⟨by decide, by decide, by decide, by decide⟩) (Or.inl (fun f h => by omega))
theorem YS.en {m : Nat} {v : Int32} (S : YS ex z nw J L) (hm : m < z.1) : YS ex z nw (upI J 13 12 m v) (upR L 0 (8 * m + 6) v) :=
  S.of (fun f => f = 12) (fun r => r = 0) (fun f c h => by rw [upI_at, if_neg (by omega)]) (fun r h => upR_off h) (by rw [upI_at, if_neg (by omega)]) (by decide) (Or.inr (S.m.put hm (Or.inr (Or.inr ⟨rfl, rfl⟩)))) (Or.inl ⟨by decide, fun f h1 h2 => by omega⟩) (Or.inl ⟨by decide, by decide⟩) (Or.inl ⟨by decide, by decide, by decide, by decide⟩) (Or.inl ⟨by decide, by decide, by decide, by decide⟩) (Or.inl (fun f h => by omega))
/-- a charge -/
theorem YS.ch {x c : Nat} (S : YS ex z nw J L) (hc : c ≤ 99) : YS ex z nw (upI J 13 21 x (nI c)) (upR L 2 x (nI c)) :=
  S.of (fun f => f = 21) (fun r => r = 2) (fun f c h => by rw [upI_at, if_neg (by omega)]) (fun r h => upR_off h) (by rw [upI_at, if_neg (by omega)]) (by decide) (Or.inl ⟨by decide, fun f h1 h2 => by omega⟩) (Or.inl ⟨by decide, fun f h1 h2 => by omega⟩) (Or.inr (fun y hy => by
    have := S.c y hy
    unfold chN
    rw [upI_at, upR_at]
    by_cases e : y = x
    · subst e; simp only [true_and, and_self, if_true]; rw [nI_clamp (by omega)]; exact ⟨rfl, hc⟩
    · simp only [e, and_false, if_false]; exact this)) (Or.inl ⟨by decide, by decide, by decide, by decide⟩) (Or.inl ⟨by decide, by decide, by decide, by decide⟩) (Or.inl (fun f h => by omega))
/-- the hours of h are apart from those of the other planned hearings of its interpreter -/
def AP (h N : Nat) (J : wI) : Prop := ∀ h', h' < N → h' ≠ h → J 13 14 h' = 0 → ¬ J 13 17 h' = -1 → ∀ k k', k < mh J h → k' < mh J h' → 1004 * msp J h' + (mfr J h' + k') ≠ 1004 * msp J h + (mfr J h + k)
theorem AP.of {h N : Nat} (S : AP h N J) (hJ : ∀ f c, f = 14 ∨ f = 17 ∨ f = 18 ∨ f = 19 → J' 13 f c = J 13 f c) : AP h N J' := by
  have h14 := fun c => hJ 14 c (by decide)
  have h17 := fun c => hJ 17 c (by decide)
  have h18 := fun c => hJ 18 c (by decide)
  have h19 := fun c => hJ 19 c (by decide)
  simpa only [AP, mh, msp, mfr, h14, h17, h18, h19] using S
theorem NC.ap {h N M : Nat} (n : NC N J) (X : MI M N J) (hh : h < N) (hp : J 13 14 h = 0) (hs : ¬ J 13 17 h = -1) : AP h N J := by
  intro h' hh' hne hp' hs' k k' hk hk' e
  obtain ⟨e1, l1⟩ := (X.sp hh).resolve_left hs
  obtain ⟨e2, l2⟩ := (X.sp hh').resolve_left hs'
  obtain ⟨f1, g1⟩ := X.fr hh
  obtain ⟨f2, g2⟩ := X.fr hh'
  have r1 := X.hr4 hh
  have r2 := X.hr4 hh'
  have e3 : msp J h' = msp J h ∧ mfr J h' + k' = mfr J h + k := by omega
  refine n h h' hh hh' (fun q => hne q.symm) hp hp' ?_ (Or.inr (Or.inr (Or.inr ⟨hs', ?_⟩)))
  · rw [f1, f2, X.hr hh, X.hr hh']
    exact mt4_2 (by omega) (by omega) (by omega) (by omega) (by omega)
  · rw [e1, e2, e3.1]
/-- an hour of a hearing that leaves late becomes paid time -/
theorem YS.keep {h m k k0 : Nat} (S : YS ex z nw J L) (X : MI z.1 z.2 J) (hA : AP h z.2 J) (he : ex h) (hh : h < z.2) (hm : m < z.1) (hs : ¬ J 13 17 h = -1) (hk : k < mh J h) (ht : nw < mfr J h + k) (ht2 : mfr J h + k ≤ nw + 10) (h0 : mpy J (1004 * msp J h + (mfr J h + k)) = 0) (hk0 : k0 < 64) (hf : ¬ nw < uN L k0 / 8) :
    YS ex z nw (upI (upI J 13 22 (mAt J h k) (nI m + 1)) 13 23 (mAt J h k) (nI (chN J (4 * h + k)))) (upR (upR L 3 k0 (nI (msp J h + 1 + 8 * (mfr J h + k)))) 4 k0 (nI (m + 16 * chN J (4 * h + k)))) := by
  obtain ⟨e1, l1⟩ := (X.sp hh).resolve_left hs
  obtain ⟨f1, g1⟩ := X.fr hh
  have r1 := X.hr4 hh
  have hM := X.1
  have hN := S.a.1
  have hn := S.q.2.2.2.2
  have hch := (S.c (4 * h + k) (by omega)).2.2
  have hq : mAt J h k = 1004 * msp J h + (mfr J h + k) := by unfold mAt; omega
  rw [hq]
  generalize hQ : 1004 * msp J h + (mfr J h + k) = Q at *
  have hp : ∀ q, mpy (upI (upI J 13 22 Q (nI m + 1)) 13 23 Q (nI (chN J (4 * h + k)))) q = if q = Q then m + 1 else mpy J q := fun q => by
    unfold mpy
    rw [upI_at, if_neg (by omega), upI_at]
    by_cases e : q = Q
    · rw [if_pos e, if_pos ⟨rfl, rfl, e⟩, nI_1, nI_clamp (by omega)]
    · rw [if_neg e, if_neg (fun q2 => e q2.2.2)]
  have ha : ∀ q, amN (upI (upI J 13 22 Q (nI m + 1)) 13 23 Q (nI (chN J (4 * h + k)))) q = if q = Q then chN J (4 * h + k) else amN J q := fun q => by
    unfold amN
    rw [upI_at]
    by_cases e : q = Q
    · rw [if_pos e, if_pos ⟨rfl, rfl, e⟩, nI_clamp (by omega)]
    · rw [if_neg e, if_neg (fun q2 => e q2.2.2), upI_at, if_neg (by omega)]
  have hJ : ∀ f c, ¬ (f = 22 ∨ f = 23) → upI (upI J 13 22 Q (nI m + 1)) 13 23 Q (nI (chN J (4 * h + k))) 13 f c = J 13 f c := fun f c hf => by
    rw [upI_at, if_neg (by omega), upI_at, if_neg (by omega)]
  refine S.of (fun f => f = 22 ∨ f = 23) (fun r => r = 3 ∨ r = 4) hJ (fun r hr => by rw [upR_off (by omega), upR_off (by omega)]) (by rw [upI_at, if_neg (by omega), upI_at, if_neg (by omega)]) (by decide) (Or.inl ⟨by decide, fun f h1 h2 => by omega⟩) (Or.inl ⟨by decide, fun f h1 h2 => by omega⟩) (Or.inl ⟨by decide, by decide⟩) (Or.inl ⟨by decide, by decide, by decide, by decide⟩) (Or.inr ⟨?_, ?_, ?_⟩) (Or.inr ?_)
  · refine S.u.keep (m := m) (a := chN J (4 * h + k)) hn l1 ht ht2 (by rw [hQ]; exact h0) hk0 hf (by omega) hch (by rw [hQ]; exact hp) (by rw [hQ]; exact ha) (fun c => ?_) (fun c => ?_)
    · rw [upR_off (by decide), upR_at]; by_cases e : c = k0 <;> simp [e]
    · rw [upR_at, upR_off (by decide)]; by_cases e : c = k0 <;> simp [e]
  · intro i t hi h1 h2
    rw [hp, if_neg (by omega)]
    exact S.v i t hi h1 h2
  · intro q hq4
    rw [ha]
    by_cases e : q = Q
    · rw [if_pos e, e, upI_at, if_pos ⟨rfl, rfl, rfl⟩]; exact ⟨rfl, hch⟩
    · rw [if_neg e, upI_at, if_neg (fun q2 => e q2.2.2), upI_at, if_neg (by omega)]; exact S.am q hq4
  · intro h' k' hh' hx hp' hk' hs' ht'
    have hne : h' ≠ h := fun e => hx (by rw [e]; exact he)
    have g1 : mh (upI (upI J 13 22 Q (nI m + 1)) 13 23 Q (nI (chN J (4 * h + k)))) h' = mh J h' := by unfold mh; rw [hJ _ _ (by decide)]
    have g2 : msp (upI (upI J 13 22 Q (nI m + 1)) 13 23 Q (nI (chN J (4 * h + k)))) h' = msp J h' := by unfold msp; rw [hJ _ _ (by decide)]
    have g3 : mfr (upI (upI J 13 22 Q (nI m + 1)) 13 23 Q (nI (chN J (4 * h + k)))) h' = mfr J h' := by unfold mfr; rw [hJ _ _ (by decide)]
    rw [hJ _ _ (by decide)] at hp' hs'
    rw [g1] at hk'
    rw [g3] at ht'
    rw [g2, g3, hp, if_neg (by rw [← hQ]; exact hA h' hh' hne hp' hs' k k' hk hk')]
    exact S.p h' k' hh' hx hp' hk' hs' ht'
/-- an hour that was paid time, or none, is taken, at the cost c -/
theorem YS.zero {q i t : Nat} (S : YS ex z nw J L) (hq : q = 1004 * i + t) (hi : i < 4) (ht : nw < t) (ht3 : t ≤ 1003)
    (hL : (mpy J q = 0 ∧ L' = L) ∨ ∃ k, k < 64 ∧ uN L k = i + 1 + 8 * t ∧ L' = upR L 3 k 0) : YS ex z nw (upI (upI J 13 22 q 0) 13 23 q 0) L' := by
  have hn := S.q.2.2.2.2
  subst hq
  generalize hQ : 1004 * i + t = Q at *
  have hp : ∀ q, mpy (upI (upI J 13 22 Q 0) 13 23 Q 0) q = if q = Q then 0 else mpy J q := fun q => by
    unfold mpy
    rw [upI_at, if_neg (by omega), upI_at]
    by_cases e : q = Q
    · rw [if_pos e, if_pos ⟨rfl, rfl, e⟩]; decide
    · rw [if_neg e, if_neg (fun q2 => e q2.2.2)]
  have ha : ∀ q, amN (upI (upI J 13 22 Q 0) 13 23 Q 0) q = if q = Q then 0 else amN J q := fun q => by
    unfold amN
    rw [upI_at]
    by_cases e : q = Q
    · rw [if_pos e, if_pos ⟨rfl, rfl, e⟩]; decide
    · rw [if_neg e, if_neg (fun q2 => e q2.2.2), upI_at, if_neg (by omega)]
  have hJ : ∀ f c, ¬ (f = 22 ∨ f = 23) → upI (upI J 13 22 Q 0) 13 23 Q 0 13 f c = J 13 f c := fun f c hf => by
    rw [upI_at, if_neg (by omega), upI_at, if_neg (by omega)]
  refine S.of (fun f => f = 22 ∨ f = 23) (fun r => r = 3) hJ (fun r hr => ?_) (by rw [upI_at, if_neg (by omega), upI_at, if_neg (by omega)]) (by decide) (Or.inl ⟨by decide, fun f h1 h2 => by omega⟩) (Or.inl ⟨by decide, fun f h1 h2 => by omega⟩) (Or.inl ⟨by decide, by decide⟩) (Or.inl ⟨by decide, by decide, by decide, by decide⟩) (Or.inr ⟨?_, ?_, ?_⟩) (Or.inr ?_)
  · rcases hL with ⟨-, rfl⟩ | ⟨k, -, -, rfl⟩
    · rfl
    · exact upR_off hr
  · rcases hL with ⟨h0, rfl⟩ | ⟨k, hk, hu, rfl⟩
    · refine ⟨S.u.1, ?_⟩
      have e2 : jpL (upI (upI J 13 22 Q 0) 13 23 Q 0) nw = jpL J nw := fm_congr (fun e he => by
        unfold jpE jpQ
        rw [hp, ha]
        by_cases e2 : 1004 * (e / 16) + hrO nw (e % 16) = Q
        · rw [if_pos e2, if_pos rfl, e2, if_pos h0]
        · rw [if_neg e2, if_neg e2])
      rw [e2]
      exact S.u.2
    · refine S.u.take S.v hn hi ht ht3 hk hu (by rw [hQ]; exact hp) (fun q hq => by rw [ha, if_neg (by rw [← hQ]; exact hq)]) (fun c => ?_) (fun c => by rw [upR_off (by decide)])
      rw [upR_at]; by_cases e : c = k <;> simp [e]
  · intro i' t' hi' h1 h2
    rw [hp]
    split
    · rfl
    · exact S.v i' t' hi' h1 h2
  · intro q hq4
    rw [ha]
    by_cases e : q = Q
    · rw [if_pos e, e, upI_at, if_pos ⟨rfl, rfl, rfl⟩]; exact ⟨nI_0.symm, by decide⟩
    · rw [if_neg e, upI_at, if_neg (fun q2 => e q2.2.2), upI_at, if_neg (by omega)]; exact S.am q hq4
  · intro h' k' hh' hx hp' hk' hs' ht'
    have g1 : mh (upI (upI J 13 22 Q 0) 13 23 Q 0) h' = mh J h' := by unfold mh; rw [hJ _ _ (by decide)]
    have g2 : msp (upI (upI J 13 22 Q 0) 13 23 Q 0) h' = msp J h' := by unfold msp; rw [hJ _ _ (by decide)]
    have g3 : mfr (upI (upI J 13 22 Q 0) 13 23 Q 0) h' = mfr J h' := by unfold mfr; rw [hJ _ _ (by decide)]
    rw [hJ _ _ (by decide)] at hp' hs'
    rw [g1] at hk'
    rw [g3] at ht'
    rw [g2, g3, hp]
    split
    · rfl
    · exact S.p h' k' hh' hx hp' hk' hs' ht'
end WLs1
