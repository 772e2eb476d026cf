section WLs3
variable {ex ex' : Nat → Prop} {z : wZ} {nw : Nat} {J J' : wI} {L L' : wR}
theorem YS.thr (S : YS ex z nw J L) (v : Int32) : YS ex z nw (th J v) L :=
  S.of (fun _ => False) (fun _ => False) (fun f c _ => by rw [th_13]) (fun _ _ => rfl) (th_off (by decide)) (fun h => h) (Or.inl ⟨fun h => h, fun _ _ _ h => h⟩) (Or.inl ⟨fun h => h, fun _ _ _ h => h⟩) (Or.inl ⟨fun h => h, fun h => h⟩) (Or.inl ⟨fun h => h, fun h => h, fun h => h, fun h => h⟩) (Or.inl ⟨fun h => h, fun h => h, fun h => h, fun h => h⟩) (Or.inl (fun _ _ h => h))
theorem YA.put {N N' h : Nat} (S : YA N J L) (hN' : N' ≤ 16) (hN : ∀ j, j < N' → j ≠ h → j < N) (hJ : ∀ f c, c ≠ h → 14 ≤ f → f ≤ 20 → J' 13 f c = J 13 f c) (hL : ∀ c, c / 4 ≠ h → L' 1 c = L 1 c)
    (hh : L' 1 (4 * h) = J' 13 14 h ∧ L' 1 (4 * h + 1) = nI (mm J' h + 16 * rmN J' h + 64 * spN J' h) ∧ L' 1 (4 * h + 2) = J' 13 18 h ∧ L' 1 (4 * h + 3) = nI (mh J' h + 16 * ntN J' h) ∧ J' 13 16 h = nI (rmN J' h) ∧ rmN J' h < 4 ∧ J' 13 17 h + 1 = nI (spN J' h) ∧ spN J' h ≤ 4 ∧ J' 13 20 h = nI (ntN J' h) ∧ ntN J' h ≤ 3 ∧ J' 13 14 h = nI (hsN J' h) ∧ hsN J' h ≤ 3) : YA N' J' L' := by
  refine ⟨hN', fun j hj => ?_⟩
  by_cases e : j = h
  · subst e; exact hh
  · have a := S.2 j (hN j hj e)
    have h14 := hJ 14 j e (by decide) (by decide)
    have h15 := hJ 15 j e (by decide) (by decide)
    have h16 := hJ 16 j e (by decide) (by decide)
    have h17 := hJ 17 j e (by decide) (by decide)
    have h18 := hJ 18 j e (by decide) (by decide)
    have h19 := hJ 19 j e (by decide) (by decide)
    have h20 := hJ 20 j e (by decide) (by decide)
    have l0 := hL (4 * j) (by omega)
    have l1 := hL (4 * j + 1) (by omega)
    have l2 := hL (4 * j + 2) (by omega)
    have l3 := hL (4 * j + 3) (by omega)
    simpa only [mm, mh, rmN, spN, ntN, hsN, h14, h15, h16, h17, h18, h19, h20, l0, l1, l2, l3] using a
theorem YP.at {N N' : Nat} (S : YP ex N nw J) (hN : ∀ j, j < N' → ¬ ex' j → j < N ∧ ¬ ex j) (hJ : ∀ f j, j < N' → ¬ ex' j → f = 14 ∨ f = 17 ∨ f = 18 ∨ f = 19 → J' 13 f j = J 13 f j) (h22 : ∀ c, J' 13 22 c = J 13 22 c) : YP ex' N' nw J' := by
  intro j k hj hx hp hk hs ht
  have h14 := hJ 14 j hj hx (by decide)
  have h17 := hJ 17 j hj hx (by decide)
  have h18 := hJ 18 j hj hx (by decide)
  have h19 := hJ 19 j hj hx (by decide)
  have := S j k (hN j hj hx).1 (hN j hj hx).2
  simp only [mh, msp, mfr, mpy, h14, h17, h18, h19, h22] at hp hk hs ht ⊢ this
  exact this hp hk hs ht
theorem sp_of {w : Int32} (hw : w = -1 ∨ ∃ s, s < 4 ∧ w = nI s) : ∃ sp, sp ≤ 4 ∧ w + 1 = nI sp ∧ (w + nI 1) = nI sp := by
  rcases hw with rfl | ⟨s, hs, rfl⟩
  · exact ⟨0, by omega, by decide, by decide⟩
  · exact ⟨s + 1, by omega, nI_1 s, by rw [nI_add]⟩
theorem YS.plan {j r f k sp : Nat} {w : Int32} (S : YS (fun _ => False) z nw J L) (hN : z.2 < 16) (h14 : J 13 14 z.2 = 0) (h20 : J 13 20 z.2 = 0) (hj : j < z.1) (hr : r < 4) (hw : w + 1 = nI sp) (hsp : sp ≤ 4) (hf : f ≤ 999) (hk : k ≤ 4) :
    YS (fun q => q = z.2) (z.1, z.2 + 1) nw (mBase J z.2 (nI j) (nI r) w (nI f) (nI k)) (upR (upR (upR (upR (upR L 1 (4 * z.2) (nI 0)) 1 (4 * z.2 + 1) (nI (j + 16 * r + 64 * sp))) 1 (4 * z.2 + 2) (nI f)) 1 (4 * z.2 + 3) (nI k)) 6 1 (nI (z.2 + 1))) := by
  have hM8 := S.M8
  have hJ : ∀ g c, (g < 15 ∨ 19 < g) → mBase J z.2 (nI j) (nI r) w (nI f) (nI k) 13 g c = J 13 g c := fun g c hg => by
    unfold mBase
    rw [upI_at, if_neg (by omega), upI_at, if_neg (by omega), upI_at, if_neg (by omega), upI_at, if_neg (by omega), upI_at, if_neg (by omega), upI_at, if_neg (by omega), th_13]
  have hJc : ∀ g c, c ≠ z.2 → mBase J z.2 (nI j) (nI r) w (nI f) (nI k) 13 g c = J 13 g c := fun g c hc => by
    unfold mBase
    rw [upI_at, if_neg (by omega), upI_at, if_neg (by omega), upI_at, if_neg (by omega), upI_at, if_neg (by omega), upI_at, if_neg (by omega), upI_at, if_neg (by omega), th_13]
  have j15 : mBase J z.2 (nI j) (nI r) w (nI f) (nI k) 13 15 z.2 = nI j := by unfold mBase; simp [upI_at]
  have j16 : mBase J z.2 (nI j) (nI r) w (nI f) (nI k) 13 16 z.2 = nI r := by unfold mBase; simp [upI_at]
  have j17 : mBase J z.2 (nI j) (nI r) w (nI f) (nI k) 13 17 z.2 = w := by unfold mBase; simp [upI_at]
  have j18 : mBase J z.2 (nI j) (nI r) w (nI f) (nI k) 13 18 z.2 = nI f := by unfold mBase; simp [upI_at]
  have j19 : mBase J z.2 (nI j) (nI r) w (nI f) (nI k) 13 19 z.2 = nI k := by unfold mBase; simp [upI_at]
  have j1 : mBase J z.2 (nI j) (nI r) w (nI f) (nI k) 12 0 1 = J 12 0 1 := by unfold mBase; simp [upI_at, th]
  generalize mBase J z.2 (nI j) (nI r) w (nI f) (nI k) = J2 at *
  have hL : ∀ a, a ≠ 1 → a ≠ 6 → upR (upR (upR (upR (upR L 1 (4 * z.2) (nI 0)) 1 (4 * z.2 + 1) (nI (j + 16 * r + 64 * sp))) 1 (4 * z.2 + 2) (nI f)) 1 (4 * z.2 + 3) (nI k)) 6 1 (nI (z.2 + 1)) a = L a := fun a h1 h2 => by
    rw [upR_off h2, upR_off h1, upR_off h1, upR_off h1, upR_off h1]
  refine ⟨S.m.of (hL 0 (by decide) (by decide)) (fun f c h1 h2 => hJ f c (by omega)), ?_, S.c.of (hL 2 (by decide) (by decide)) (fun c => hJ 21 c (by omega)), S.w.of (hL 5 (by decide) (by decide)) (fun c => hJ 2 c (by omega)) (fun c => hJ 3 c (by omega)) (fun c => hJ 4 c (by omega)), ⟨?_, ?_, ?_, j1.trans S.jn, S.n9⟩, S.u.same (fun q _ => by unfold mpy; rw [hJ 22 q (by omega)]) (fun q _ => by unfold amN; rw [hJ 23 q (by omega)]) S.n9 (hL 3 (by decide) (by decide)) (hL 4 (by decide) (by decide)), S.v.of (fun c => hJ 22 c (by omega)), S.am.of (fun c => hJ 23 c (by omega)), ?_⟩
  · refine YA.put (h := z.2) S.a (show z.2 + 1 ≤ 16 by omega) (fun j hj hne => by have : j < z.2 + 1 := hj; omega) (fun f c hc _ _ => hJc f c hc) (fun c hc => ?_) ?_
    · rw [upR_at, if_neg (by omega), upR_at, if_neg (by omega), upR_at, if_neg (by omega), upR_at, if_neg (by omega), upR_at, if_neg (by omega)]
    · have e14 : J2 13 14 z.2 = 0 := (hJ 14 _ (by omega)).trans h14
      have e20 : J2 13 20 z.2 = 0 := (hJ 20 _ (by omega)).trans h20
      have cz : (0 : Int32).toNatClampNeg = 0 := by decide
      unfold mm mh rmN spN ntN hsN
      rw [j15, j16, j17, j18, j19, e14, e20, hw, cz, nI_clamp (by omega), nI_clamp (by omega), nI_clamp (by omega), nI_clamp (by omega), nI_0]
      refine ⟨?_, ?_, ?_, ?_, rfl, hr, rfl, hsp, rfl, by omega, rfl, by omega⟩
      · simp [upR_at]
      · simp [upR_at]
      · simp [upR_at]
      · simp [upR_at]
  · rw [upR_at, if_neg (by omega), upR_off (by decide), upR_off (by decide), upR_off (by decide), upR_off (by decide)]; exact S.q0
  · rw [upR_at, if_pos ⟨rfl, rfl⟩]
  · rw [upR_at, if_neg (by omega), upR_off (by decide), upR_off (by decide), upR_off (by decide), upR_off (by decide)]; exact S.q2
  · exact S.p.at (fun i hi hx => by have : i < z.2 + 1 := hi; exact ⟨by omega, fun h => h⟩) (fun f i hi hx _ => hJc f i hx) (fun c => hJ 22 c (by omega))
theorem YS.move {h r f sp : Nat} {w : Int32} (S : YS ex z nw J L) (X : MI z.1 z.2 J) (hh : h < z.2) (he : ex h) (hr : r < 4) (hw : w + 1 = nI sp) (hsp : sp ≤ 4) (hf : f ≤ 999) :
    YS ex z nw (mMv J h (nI r) w (nI f)) (upR (upR (upR L 1 (4 * h + 1) (nI (mm J h + 16 * r + 64 * sp))) 1 (4 * h + 2) (nI f)) 1 (4 * h + 3) (nI (mh J h))) := by
  have hN16 := S.N16
  have hJ : ∀ g c, (g < 16 ∨ g = 19 ∨ 20 < g) → mMv J h (nI r) w (nI f) 13 g c = J 13 g c := fun g c hg => by
    unfold mMv
    rw [upI_at, if_neg (by omega), upI_at, if_neg (by omega), upI_at, if_neg (by omega), upI_at, if_neg (by omega)]
  have hJc : ∀ g c, c ≠ h → mMv J h (nI r) w (nI f) 13 g c = J 13 g c := fun g c hc => by
    unfold mMv
    rw [upI_at, if_neg (by omega), upI_at, if_neg (by omega), upI_at, if_neg (by omega), upI_at, if_neg (by omega)]
  have j16 : mMv J h (nI r) w (nI f) 13 16 h = nI r := by unfold mMv; simp [upI_at]
  have j17 : mMv J h (nI r) w (nI f) 13 17 h = w := by unfold mMv; simp [upI_at]
  have j18 : mMv J h (nI r) w (nI f) 13 18 h = nI f := by unfold mMv; simp [upI_at]
  have j20 : mMv J h (nI r) w (nI f) 13 20 h = 0 := by unfold mMv; simp [upI_at]
  have j1 : mMv J h (nI r) w (nI f) 12 0 1 = J 12 0 1 := by unfold mMv; simp [upI_at]
  have e14 := hJ 14 h (by omega)
  have e15 := hJ 15 h (by omega)
  have e19 := hJ 19 h (by omega)
  generalize mMv J h (nI r) w (nI f) = J2 at *
  have hL : ∀ a, a ≠ 1 → upR (upR (upR L 1 (4 * h + 1) (nI (mm J h + 16 * r + 64 * sp))) 1 (4 * h + 2) (nI f)) 1 (4 * h + 3) (nI (mh J h)) a = L a := fun a h1 => by
    rw [upR_off h1, upR_off h1, upR_off h1]
  have hP : YP ex z.2 nw J2 := S.p.at (fun i hi hx => ⟨hi, hx⟩) (fun g i hi hx _ => hJc g i (fun e => hx (by rw [e]; exact he))) (fun c => hJ 22 c (by omega))
  refine S.of (fun g => 16 ≤ g ∧ g ≤ 20 ∧ g ≠ 19) (fun a => a = 1) (fun g c hg => hJ g c (by omega)) (fun a ha => hL a ha) j1 (by decide) (Or.inl ⟨by decide, fun f h1 h2 => by omega⟩) (Or.inr ?_) (Or.inl ⟨by decide, by omega⟩) (Or.inl ⟨by decide, by omega, by omega, by omega⟩) (Or.inl ⟨by decide, by decide, by omega, by omega⟩) (Or.inr hP)
  obtain ⟨a0, -, -, -, -, -, -, -, -, -, a10, a11⟩ := S.a.2 h hh
  refine YA.put (h := h) S.a hN16 (fun j hj _ => hj) (fun f c hc _ _ => hJc f c hc) (fun c hc => ?_) ?_
  · rw [upR_at, if_neg (by omega), upR_at, if_neg (by omega), upR_at, if_neg (by omega)]
  · have cz : (0 : Int32).toNatClampNeg = 0 := by decide
    unfold hsN at a10 a11 ⊢
    have em : mm J2 h = mm J h := by unfold mm; rw [e15]
    have eh : mh J2 h = mh J h := by unfold mh; rw [e19]
    have er : rmN J2 h = r := by unfold rmN; rw [j16, nI_clamp (by omega)]
    have es : spN J2 h = sp := by unfold spN; rw [j17, hw, nI_clamp (by omega)]
    have et : ntN J2 h = 0 := by unfold ntN; rw [j20]; exact cz
    rw [em, eh, er, es, et, e14, j16, j17, j18, j20, upR_at, if_neg (by omega), upR_at, if_neg (by omega), upR_at, if_neg (by omega), upR_at, if_neg (by omega), upR_at, if_neg (by omega), upR_at, if_pos ⟨rfl, rfl⟩, upR_at, if_neg (by omega), upR_at, if_pos ⟨rfl, rfl⟩, upR_at, if_pos ⟨rfl, rfl⟩]
    exact ⟨a0, rfl, rfl, rfl, rfl, hr, hw, hsp, nI_0.symm, by omega, a10, a11⟩
theorem YS.nt {h t : Nat} {v : Int32} (S : YS ex z nw J L) (hh : h < z.2) (ht : t ≤ 3) (hv : v = nI t) : YS ex z nw (upI J 13 20 h v) (upR L 1 (4 * h + 3) (nI (mh J h + 16 * t))) := by
  have hN16 := S.N16
  subst hv
  have hJ : ∀ g c, g ≠ 20 → upI J 13 20 h (nI t) 13 g c = J 13 g c := fun g c hg => by rw [upI_at, if_neg (by omega)]
  have hJc : ∀ g c, c ≠ h → upI J 13 20 h (nI t) 13 g c = J 13 g c := fun g c hc => by rw [upI_at, if_neg (by omega)]
  have j20 : upI J 13 20 h (nI t) 13 20 h = nI t := by rw [upI_at, if_pos ⟨rfl, rfl, rfl⟩]
  have e14 := hJ 14 h (by decide)
  have e15 := hJ 15 h (by decide)
  have e16 := hJ 16 h (by decide)
  have e17 := hJ 17 h (by decide)
  have e18 := hJ 18 h (by decide)
  have e19 := hJ 19 h (by decide)
  refine S.of (fun g => g = 20) (fun a => a = 1) hJ (fun a ha => upR_off ha) (by rw [upI_at, if_neg (by omega)]) (by decide) (Or.inl ⟨by decide, fun f h1 h2 => by omega⟩) (Or.inr ?_) (Or.inl ⟨by decide, by decide⟩) (Or.inl ⟨by decide, by decide, by decide, by decide⟩) (Or.inl ⟨by decide, by decide, by decide, by decide⟩) (Or.inl (fun f h => by omega))
  obtain ⟨a0, a1, a2, a3, a4, a5, a6, a7, a8, a9, a10, a11⟩ := S.a.2 h hh
  refine YA.put (h := h) S.a hN16 (fun j hj _ => hj) (fun f c hc _ _ => hJc f c hc) (fun c hc => by rw [upR_at, if_neg (by omega)]) ?_
  generalize upI J 13 20 h (nI t) = J2 at *
  have em : mm J2 h = mm J h := by unfold mm; rw [e15]
  have eh : mh J2 h = mh J h := by unfold mh; rw [e19]
  have er : rmN J2 h = rmN J h := by unfold rmN; rw [e16]
  have es : spN J2 h = spN J h := by unfold spN; rw [e17]
  have ehs : hsN J2 h = hsN J h := by unfold hsN; rw [e14]
  have et : ntN J2 h = t := by unfold ntN; rw [j20, nI_clamp (by omega)]
  rw [em, eh, er, es, et, ehs, e14, e16, e17, e18, j20, upR_at, if_neg (by omega), upR_at, if_neg (by omega), upR_at, if_neg (by omega), upR_at, if_pos ⟨rfl, rfl⟩]
  exact ⟨a0, a1, a2, rfl, a4, a5, a6, a7, rfl, ht, a10, a11⟩
theorem YS.it {i p : Nat} {y : Int32} (S : YS ex z nw J L) (hi : i < 4) (hp : p ≤ 99) : YS ex z nw (upI (upI J 13 2 i y) 13 3 i (nI p)) (upR (upR L 5 i y) 5 (4 + i) (nI p)) := by
  refine S.of (fun g => g = 2 ∨ g = 3) (fun a => a = 5) (fun g c hg => by rw [upI_at, if_neg (by omega), upI_at, if_neg (by omega)]) (fun a ha => by rw [upR_off ha, upR_off ha]) (by rw [upI_at, if_neg (by omega), upI_at, if_neg (by omega)]) (by decide) (Or.inl ⟨by decide, fun f h1 h2 => by omega⟩) (Or.inl ⟨by decide, fun f h1 h2 => by omega⟩) (Or.inl ⟨by decide, by decide⟩) (Or.inr ⟨fun j hj => ?_, fun q hq => ?_⟩) (Or.inl ⟨by decide, by decide, by decide, by decide⟩) (Or.inl (fun f h => by omega))
  · have a := S.w.1 j hj
    have l5 : ∀ c, upR (upR L 5 i y) 5 (4 + i) (nI p) 5 c = if c = 4 + i then nI p else if c = i then y else L 5 c := fun c => by
      rw [upR_at, upR_at]; simp
    have j2 : upI (upI J 13 2 i y) 13 3 i (nI p) 13 2 j = if j = i then y else J 13 2 j := by rw [upI_at, if_neg (by omega), upI_at]; simp
    have j3 : upI (upI J 13 2 i y) 13 3 i (nI p) 13 3 j = if j = i then nI p else J 13 3 j := by rw [upI_at]; by_cases e : j = i <;> simp [e, upI_at]
    unfold prN at a ⊢
    rw [l5, l5, j2, j3, if_neg (c := j = 4 + i) (by omega)]
    by_cases e : j = i
    · subst e
      rw [if_pos rfl, if_pos rfl, if_pos rfl, if_pos rfl, nI_clamp (by omega)]
      exact ⟨rfl, rfl, rfl, hp⟩
    · rw [if_neg e, if_neg e, if_neg (by omega), if_neg (by omega), if_neg e]
      exact a
  · have a := S.w.2 q hq
    rw [upR_at, if_neg (by omega), upR_at, if_neg (by omega), upI_at, if_neg (by omega), upI_at, if_neg (by omega)]
    exact a
theorem YS.wv {p : Nat} {v : Int32} (S : YS ex z nw J L) (hp : p < 6) (hv : v = 0 ∨ v = 1) : YS ex z nw (upI J 13 4 p v) (upR L 5 (8 + p) v) := by
  refine S.of (fun g => g = 4) (fun a => a = 5) (fun g c hg => by rw [upI_at, if_neg (by omega)]) (fun a ha => by rw [upR_off ha]) (by rw [upI_at, if_neg (by omega)]) (by decide) (Or.inl ⟨by decide, fun f h1 h2 => by omega⟩) (Or.inl ⟨by decide, fun f h1 h2 => by omega⟩) (Or.inl ⟨by decide, by decide⟩) (Or.inr ⟨fun j hj => ?_, fun q hq => ?_⟩) (Or.inl ⟨by decide, by decide, by decide, by decide⟩) (Or.inl (fun f h => by omega))
  · have a := S.w.1 j hj
    unfold prN at a ⊢
    rw [upR_at, if_neg (by omega), upR_at, if_neg (by omega), upI_at, if_neg (by omega), upI_at, if_neg (by omega)]
    exact a
  · have a := S.w.2 q hq
    rw [upR_at, upI_at]
    by_cases e : q = p
    · subst e
      rw [if_pos ⟨rfl, rfl⟩, if_pos ⟨rfl, rfl, rfl⟩]
      exact ⟨rfl, hv⟩
    · rw [if_neg (by omega), if_neg (by omega)]
      exact a
theorem YS.file {g : Nat} {x0 x1 x2 x3 b : Int32} (S : YS ex z nw J L) (hM : z.1 < 8) (h6 : J 13 6 z.1 = 0) (hg : g ≤ 4) (h3 : x3 + 1 = nI g) (h2 : ∃ p, p < 6 ∧ x2 = nI p) :
    YS ex (z.1 + 1, z.2) nw (upI (upI (upI (upI (upI (upI (upI (th J 0) 13 7 z.1 x0) 13 8 z.1 x1) 13 9 z.1 x2) 13 10 z.1 x3) 13 11 z.1 b) 13 12 z.1 (nI (nw + 100))) 12 0 5 (nI (z.1 + 1))) (upR (upR (upR (upR (upR (upR (upR L 0 (8 * z.1 + 1) x0) 0 (8 * z.1 + 2) x1) 0 (8 * z.1 + 3) x2) 0 (8 * z.1 + 4) (nI g)) 0 (8 * z.1 + 5) b) 0 (8 * z.1 + 6) (nI (nw + 100))) 6 0 (nI (z.1 + 1))) := by
  generalize hJ2 : upI (upI (upI (upI (upI (upI (upI (th J 0) 13 7 z.1 x0) 13 8 z.1 x1) 13 9 z.1 x2) 13 10 z.1 x3) 13 11 z.1 b) 13 12 z.1 (nI (nw + 100))) 12 0 5 (nI (z.1 + 1)) = J2
  have hJ : ∀ f c, (f < 7 ∨ 12 < f ∨ c ≠ z.1) → J2 13 f c = J 13 f c := fun f c hf => by
    rw [← hJ2, upI_at, if_neg (by omega), upI_at, if_neg (by omega), upI_at, if_neg (by omega), upI_at, if_neg (by omega), upI_at, if_neg (by omega), upI_at, if_neg (by omega), upI_at, if_neg (by omega), th_13]
  have j7 : J2 13 7 z.1 = x0 := by rw [← hJ2]; simp [upI_at]
  have j8 : J2 13 8 z.1 = x1 := by rw [← hJ2]; simp [upI_at]
  have j9 : J2 13 9 z.1 = x2 := by rw [← hJ2]; simp [upI_at]
  have j10 : J2 13 10 z.1 = x3 := by rw [← hJ2]; simp [upI_at]
  have j11 : J2 13 11 z.1 = b := by rw [← hJ2]; simp [upI_at]
  have j12 : J2 13 12 z.1 = nI (nw + 100) := by rw [← hJ2]; simp [upI_at]
  have j1 : J2 12 0 1 = J 12 0 1 := by rw [← hJ2]; simp [upI_at, th]
  clear hJ2
  have hL : ∀ a, a ≠ 0 → a ≠ 6 → upR (upR (upR (upR (upR (upR (upR L 0 (8 * z.1 + 1) x0) 0 (8 * z.1 + 2) x1) 0 (8 * z.1 + 3) x2) 0 (8 * z.1 + 4) (nI g)) 0 (8 * z.1 + 5) b) 0 (8 * z.1 + 6) (nI (nw + 100))) 6 0 (nI (z.1 + 1)) a = L a := fun a h1 h2 => by
    rw [upR_off h2, upR_off h1, upR_off h1, upR_off h1, upR_off h1, upR_off h1, upR_off h1]
  have hL0 : ∀ c, (c < 8 * z.1 + 1 ∨ 8 * z.1 + 6 < c) → upR (upR (upR (upR (upR (upR (upR L 0 (8 * z.1 + 1) x0) 0 (8 * z.1 + 2) x1) 0 (8 * z.1 + 3) x2) 0 (8 * z.1 + 4) (nI g)) 0 (8 * z.1 + 5) b) 0 (8 * z.1 + 6) (nI (nw + 100))) 6 0 (nI (z.1 + 1)) 0 c = L 0 c := fun c hc => by
    rw [upR_at, if_neg (by omega), upR_at, if_neg (by omega), upR_at, if_neg (by omega), upR_at, if_neg (by omega), upR_at, if_neg (by omega), upR_at, if_neg (by omega), upR_at, if_neg (by omega)]
  refine ⟨⟨show z.1 + 1 ≤ 8 by omega, fun k hk => ?_, fun k hk hk8 => ?_, fun k hk => ?_⟩, ?_, S.c.of (hL 2 (by decide) (by decide)) (fun c => hJ 21 c (by omega)), S.w.of (hL 5 (by decide) (by decide)) (fun c => hJ 2 c (by omega)) (fun c => hJ 3 c (by omega)) (fun c => hJ 4 c (by omega)), ⟨?_, ?_, ?_, j1.trans S.jn, S.n9⟩, S.u.same (fun q _ => by unfold mpy; rw [hJ 22 q (by omega)]) (fun q _ => by unfold amN; rw [hJ 23 q (by omega)]) S.n9 (hL 3 (by decide) (by decide)) (hL 4 (by decide) (by decide)), S.v.of (fun c => hJ 22 c (by omega)), S.am.of (fun c => hJ 23 c (by omega)), S.p.of (fun f c hf => hJ f c (by omega))⟩
  · have hk : k < z.1 + 1 := hk
    by_cases e : k = z.1
    · subst e
      have z8 := S.m.2.2.1 z.1 (Nat.le_refl _) hM
      unfold stN lgN
      rw [hL0 (8 * z.1) (by omega), z8, hJ 6 _ (by omega), h6, j7, j8, j9, j10, j11, j12, h3, nI_clamp (by omega)]
      have cz : (0 : Int32).toNatClampNeg = 0 := by decide
      rw [cz]
      refine ⟨rfl, ?_, ?_, ?_, ?_, ?_, ?_, nI_0.symm, by omega, rfl, hg⟩ <;> simp [upR_at]
    · have a := S.m.2.1 k (by omega)
      unfold stN lgN at a ⊢
      rw [hL0 _ (by omega), hL0 _ (by omega), hL0 _ (by omega), hL0 _ (by omega), hL0 _ (by omega), hL0 _ (by omega), hL0 _ (by omega), hJ 6 k (by omega), hJ 7 k (by omega), hJ 8 k (by omega), hJ 9 k (by omega), hJ 10 k (by omega), hJ 11 k (by omega), hJ 12 k (by omega)]
      exact a
  · have hk : z.1 + 1 ≤ k := hk
    rw [hL0 _ (by omega)]
    exact S.m.2.2.1 k (by omega) hk8
  · have hk : k < z.1 + 1 := hk
    by_cases e : k = z.1
    · subst e; rw [j9]; exact h2
    · rw [hJ 9 k (by omega)]; exact S.m.2.2.2 k (by omega)
  · refine YA.of S.a ?_ (fun f c h1 h2 => hJ f c (by omega))
    exact hL 1 (by decide) (by decide)
  · rw [upR_at, if_pos ⟨rfl, rfl⟩]
  · rw [upR_at, if_neg (by omega), upR_off (by decide), upR_off (by decide), upR_off (by decide), upR_off (by decide), upR_off (by decide), upR_off (by decide)]; exact S.q1
  · rw [upR_at, if_neg (by omega), upR_off (by decide), upR_off (by decide), upR_off (by decide), upR_off (by decide), upR_off (by decide), upR_off (by decide)]; exact S.q2
/-- two writings in two places -/
theorem upI_swap (I : wI) {a b j a' b' j' : Nat} {v v' : Int32} (h : ¬ (a = a' ∧ b = b' ∧ j = j')) : upI (upI I a b j v) a' b' j' v' = upI (upI I a' b' j' v') a b j v := by
  funext k i c
  rw [upI_at, upI_at, upI_at, upI_at]
  by_cases h1 : k = a' ∧ i = b' ∧ c = j'
  · rw [if_pos h1, if_neg (fun q => h ⟨q.1.symm.trans h1.1, q.2.1.symm.trans h1.2.1, q.2.2.symm.trans h1.2.2⟩), if_pos h1]
  · rw [if_neg h1, if_neg h1]
theorem mLvS_6 {j m k x : Nat} {v : Int32} : mLvS j m k (upI J 13 6 x v) = upI (mLvS j m k J) 13 6 x v := by
  have r : ∀ f c, f ≠ 6 → upI J 13 6 x v 13 f c = J 13 f c := fun f c hf => by rw [upI_at, if_neg (by omega)]
  have r1 : upI J 13 6 x v 12 0 1 = J 12 0 1 := by rw [upI_at, if_neg (by omega)]
  have ea : mAt (upI J 13 6 x v) j k = mAt J j k := by unfold mAt msp mfr; rw [r _ _ (by decide), r _ _ (by decide)]
  unfold mLvS
  rw [ea, r 18 _ (by decide), r1]
  split
  · rw [upI_at _ 13 22 _ _ 13 21, if_neg (by omega), r _ _ (by decide), upI_at _ 13 22 _ _ 13 21, if_neg (by omega), upI_swap J (by omega), upI_swap _ (by omega)]
  · rw [r _ _ (by decide), r _ _ (by decide), upI_swap J (by omega)]
theorem mLvL_6 {j m x : Nat} {v : Int32} : ∀ (n k : Nat) (J : wI), mLvL j m n k (upI J 13 6 x v) = upI (mLvL j m n k J) 13 6 x v
  | 0, _, _ => rfl
  | n + 1, k, J => by
    show mLvL j m n (k + 1) (mLvS j m k (upI J 13 6 x v)) = _
    rw [mLvS_6, mLvL_6 n (k + 1)]
    rfl
theorem mLv_6 {j x : Nat} {v : Int32} : mLv j (upI J 13 6 x v) = upI (mLv j J) 13 6 x v := by
  have r : ∀ f c, f ≠ 6 → upI J 13 6 x v 13 f c = J 13 f c := fun f c hf => by rw [upI_at, if_neg (by omega)]
  have r1 : upI J 13 6 x v 12 0 1 = J 12 0 1 := by rw [upI_at, if_neg (by omega)]
  unfold mLv mm mh
  rw [r 17 _ (by decide), r 18 _ (by decide), r1, r 15 _ (by decide), r 19 _ (by decide)]
  split
  · rfl
  · exact mLvL_6 _ _ _
theorem mdL_6 {m x : Nat} {v : Int32} : ∀ (n h : Nat) (J : wI) (c : Int32), mdL m n h (upI J 13 6 x v, c) = (upI (mdL m n h (J, c)).1 13 6 x v, (mdL m n h (J, c)).2)
  | 0, _, _, _ => rfl
  | n + 1, h, J, c => by
    show mdL m n (h + 1) (mdS m h (upI J 13 6 x v, c)) = (upI (mdL m n (h + 1) (mdS m h (J, c))).1 13 6 x v, (mdL m n (h + 1) (mdS m h (J, c))).2)
    have r : ∀ f c, f ≠ 6 → upI J 13 6 x v 13 f c = J 13 f c := fun f c hf => by rw [upI_at, if_neg (by omega)]
    have e : mdS m h (upI J 13 6 x v, c) = (upI (mdS m h (J, c)).1 13 6 x v, (mdS m h (J, c)).2) := by
      have ei : (mm (upI J 13 6 x v) h = m ∧ upI J 13 6 x v 13 14 h = 0) ↔ (mm J h = m ∧ J 13 14 h = 0) := by unfold mm; rw [r 15 _ (by decide), r 14 _ (by decide)]
      unfold mdS
      by_cases q : mm J h = m ∧ J 13 14 h = 0
      · rw [if_pos q, if_pos (ei.mpr q)]
        show (upI (mLv h (upI J 13 6 x v)) 13 14 h 3, c + 1) = _
        rw [mLv_6, upI_swap _ (by omega)]
      · rw [if_neg q, if_neg (fun q2 => q (ei.mp q2))]
    rw [e]
    exact mdL_6 n (h + 1) _ _
theorem NC.of {N : Nat} (n : NC N J) (hJ : ∀ f c, (7 ≤ f ∧ f ≤ 9) ∨ (14 ≤ f ∧ f ≤ 19) → J' 13 f c = J 13 f c) : NC N J' := by
  have h7 := fun c => hJ 7 c (by decide)
  have h8 := fun c => hJ 8 c (by decide)
  have h9 := fun c => hJ 9 c (by decide)
  have h14 := fun c => hJ 14 c (by decide)
  have h15 := fun c => hJ 15 c (by decide)
  have h16 := fun c => hJ 16 c (by decide)
  have h17 := fun c => hJ 17 c (by decide)
  have h18 := fun c => hJ 18 c (by decide)
  have h19 := fun c => hJ 19 c (by decide)
  simpa only [NC, sm2, mm, h7, h8, h9, h14, h15, h16, h17, h18, h19] using n
end WLs3
