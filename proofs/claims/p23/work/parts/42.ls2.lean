section WLs2
variable {ex ex' : Nat → Prop} {z : wZ} {nw : Nat} {J J' : wI} {L L' : wR}
def eA (J : wI) (h : Nat) : Nat := mm J h + 16 * rmN J h + 64 * spN J h
def eH (J : wI) (h : Nat) : Nat := mh J h + 16 * ntN J h
theorem YS.rA (S : YS ex z nw J L) {h : Nat} (hh : h < z.2) : L 1 (4 * h + 1) = nI (eA J h) := (S.a.2 h hh).2.1
theorem YS.rH (S : YS ex z nw J L) {h : Nat} (hh : h < z.2) : L 1 (4 * h + 3) = nI (eH J h) := (S.a.2 h hh).2.2.2.1
theorem YS.rF (S : YS ex z nw J L) (X : MI z.1 z.2 J) {h : Nat} (hh : h < z.2) : L 1 (4 * h + 2) = nI (mfr J h) := (S.a.2 h hh).2.2.1.trans (X.fr hh).1
theorem YS.rS (S : YS ex z nw J L) {h : Nat} (hh : h < z.2) : L 1 (4 * h) = J 13 14 h := (S.a.2 h hh).1
theorem YS.rm4 (S : YS ex z nw J L) {h : Nat} (hh : h < z.2) : rmN J h < 4 := (S.a.2 h hh).2.2.2.2.2.1
theorem YS.sp4 (S : YS ex z nw J L) {h : Nat} (hh : h < z.2) : spN J h ≤ 4 := (S.a.2 h hh).2.2.2.2.2.2.2.1
theorem YS.nt3 (S : YS ex z nw J L) {h : Nat} (hh : h < z.2) : ntN J h ≤ 3 := (S.a.2 h hh).2.2.2.2.2.2.2.2.2.1
theorem YS.M8 (S : YS ex z nw J L) : z.1 ≤ 8 := S.m.1
theorem YS.N16 (S : YS ex z nw J L) : z.2 ≤ 16 := S.a.1
theorem YS.n9 (S : YS ex z nw J L) : nw ≤ 930 := S.q.2.2.2.2
theorem YS.q0 (S : YS ex z nw J L) : L 6 0 = nI z.1 := S.q.1
theorem YS.q1 (S : YS ex z nw J L) : L 6 1 = nI z.2 := S.q.2.1
theorem YS.q2 (S : YS ex z nw J L) : L 6 2 = nI nw := S.q.2.2.1
theorem YS.jn (S : YS ex z nw J L) : J 12 0 1 = nI nw := S.q.2.2.2.1
theorem YS.spv (S : YS ex z nw J L) {h : Nat} (hh : h < z.2) : nI (spN J h) - nI 1 = J 13 17 h := by
  have := (S.a.2 h hh).2.2.2.2.2.2.1
  rw [← this, nI1', Int32.add_sub_cancel]
theorem eA_m {h : Nat} (hm : mm J h < 12) (hr : rmN J h < 4) : eA J h % 16 = mm J h := by unfold eA; omega
theorem eA_r {h : Nat} (hm : mm J h < 12) (hr : rmN J h < 4) : eA J h / 16 % 4 = rmN J h := by unfold eA; omega
theorem eA_s {h : Nat} (hm : mm J h < 12) (hr : rmN J h < 4) : eA J h / 64 = spN J h := by unfold eA; omega
theorem eA_lt {h : Nat} (hm : mm J h < 12) (hr : rmN J h < 4) (hs : spN J h ≤ 4) : eA J h < 1000 := by unfold eA; omega
theorem eH_h {h : Nat} (hm : mh J h ≤ 4) : eH J h % 16 = mh J h := by unfold eH; omega
theorem eH_n {h : Nat} (hm : mh J h ≤ 4) : eH J h / 16 = ntN J h := by unfold eH; omega
theorem eH_lt {h : Nat} (hm : mh J h ≤ 4) (hn : ntN J h ≤ 3) : eH J h < 1000 := by unfold eH; omega
theorem ah_ge {f nw : Nat} (hf : f < 2 ^ 30) (hn : nw < 2 ^ 30) : nI 1 ≤ nI f - nI nw ↔ nw < f := by
  rw [Int32.le_iff_toInt_le, pk_sub_toInt hf hn, show (nI 1).toInt = 1 from by decide]
  omega
theorem ah_7 {f nw : Nat} (hf : f < 2 ^ 30) (hn : nw < 2 ^ 30) : nI f - nI nw ≤ nI 7 ↔ f < nw + 8 := by
  rw [Int32.le_iff_toInt_le, pk_sub_toInt hf hn, show (nI 7).toInt = 7 from by decide]
  omega
theorem ah_3 {f nw : Nat} (hf : f < 2 ^ 30) (hn : nw < 2 ^ 30) : nI f - nI nw ≤ nI 3 ↔ f < nw + 4 := by
  rw [Int32.le_iff_toInt_le, pk_sub_toInt hf hn, show (nI 3).toInt = 3 from by decide]
  omega
theorem nI_lt0 {f : Nat} (hf : f < 2 ^ 31) : ¬ nI f < 0 := nI_pos hf
theorem mLvS_near {h m k : Nat} (S : YS ex z nw J L) (hx : 4 * h + k < 64) (hf : J 13 18 h - J 12 0 1 < 8) : mLvS h m k J = upI (upI J 13 22 (mAt J h k) (nI m + 1)) 13 23 (mAt J h k) (nI (chN J (4 * h + k))) := by
  unfold mLvS
  rw [if_pos hf, upI_at J 13 22, if_neg (by omega), (S.c _ hx).2.1]
theorem mLvS_far {h m k : Nat} (hf : ¬ J 13 18 h - J 12 0 1 < 8) : mLvS h m k J = upI J 13 11 m (J 13 11 m + J 13 21 (4 * h + k)) := by
  unfold mLvS
  rw [if_neg hf]
theorem mLvS_mpy {h m k q : Nat} (hq : q ≠ mAt J h k) : mpy (mLvS h m k J) q = mpy J q := by
  unfold mpy mLvS
  split
  · rw [upI_at, if_neg (by omega), upI_at, if_neg (fun e => hq e.2.2)]
  · rw [upI_at, if_neg (by omega)]
/-- a planned hearing's state ends -/
theorem YS.hst {h : Nat} {v : Int32} (S : YS ex z nw J L) (hh : h < z.2) (hv : v = nI v.toNatClampNeg) (hv3 : v.toNatClampNeg ≤ 3) (hv0 : ¬ v = 0) : YS (fun j => ex j ∧ j ≠ h) z nw (upI J 13 14 h v) (upR L 1 (4 * h) v) := by
  have hJ : ∀ f c, f ≠ 14 → upI J 13 14 h v 13 f c = J 13 f c := fun f c hf => by rw [upI_at, if_neg (by omega)]
  have h14 : ∀ c, upI J 13 14 h v 13 14 c = if c = h then v else J 13 14 c := fun c => by
    rw [upI_at]; by_cases e : c = h <;> simp [e]
  have hp : YP (fun j => ex j ∧ j ≠ h) z.2 nw (upI J 13 14 h v) := by
    intro h' k hh' hx hp hk hs ht
    rw [h14] at hp
    by_cases e : h' = h
    · rw [if_pos e] at hp; exact absurd hp hv0
    · rw [if_neg e] at hp
      have := S.p h' k hh' (fun q => hx ⟨q, e⟩) hp
      unfold mh mfr msp mpy at *
      rw [hJ _ _ (by decide)] at *
      rw [hJ _ _ (by decide)] at *
      rw [hJ _ _ (by decide)] at *
      exact this hk hs ht
  refine ⟨S.m.of (upR_off (by decide)) (fun f c h1 h2 => hJ f c (by omega)), ⟨S.a.1, fun h' hh' => ?_⟩, S.c.of (upR_off (by decide)) (fun c => hJ 21 c (by decide)), S.w.of (upR_off (by decide)) (fun c => hJ 2 c (by decide)) (fun c => hJ 3 c (by decide)) (fun c => hJ 4 c (by decide)), S.q.of (upR_off (by decide)) (by rw [upI_at, if_neg (by omega)]), S.u.same (fun q _ => by unfold mpy; rw [hJ 22 q (by decide)]) (fun q _ => by unfold amN; rw [hJ 23 q (by decide)]) S.n9 (upR_off (by decide)) (upR_off (by decide)), S.v.of (fun c => hJ 22 c (by decide)), S.am.of (fun c => hJ 23 c (by decide)), hp⟩
  obtain ⟨a0, a1, a2, a3, a4, a5, a6, a7, a8, a9, a10, a11⟩ := S.a.2 h' hh'
  unfold mm mh rmN spN ntN hsN at *
  rw [upR_at, upR_at, upR_at, upR_at, if_neg (c := (1 = 1 ∧ 4 * h' + 1 = 4 * h)) (by omega), if_neg (c := (1 = 1 ∧ 4 * h' + 2 = 4 * h)) (by omega), if_neg (c := (1 = 1 ∧ 4 * h' + 3 = 4 * h)) (by omega), hJ 15 _ (by decide), hJ 16 _ (by decide), hJ 17 _ (by decide), hJ 18 _ (by decide), hJ 19 _ (by decide), hJ 20 _ (by decide), h14]
  by_cases e : h' = h
  · subst e
    rw [if_pos ⟨rfl, rfl⟩, if_pos rfl]
    exact ⟨rfl, a1, a2, a3, a4, a5, a6, a7, a8, a9, hv, hv3⟩
  · rw [if_neg (by omega), if_neg e]
    exact ⟨a0, a1, a2, a3, a4, a5, a6, a7, a8, a9, a10, a11⟩
/-- an hour has passed -/
theorem YS.tick (S : YS ex z nw J L) (hn : nw + 1 ≤ 930) : YS ex z (nw + 1) (eN J) (upR L 6 2 (nI (nw + 1))) := by
  have hJ : ∀ f c, eN J 13 f c = J 13 f c := fun f c => by unfold eN; rw [upI_at, if_neg (by omega)]
  refine ⟨S.m.of (upR_off (by decide)) (fun f c _ _ => hJ f c), S.a.of (upR_off (by decide)) (fun f c _ _ => hJ f c), S.c.of (upR_off (by decide)) (fun c => hJ 21 c), S.w.of (upR_off (by decide)) (fun c => hJ 2 c) (fun c => hJ 3 c) (fun c => hJ 4 c), ⟨?_, ?_, ?_, ?_, hn⟩, (S.u.next S.v S.n9).same (fun q _ => by unfold mpy; rw [hJ 22 q]) (fun q _ => by unfold amN; rw [hJ 23 q]) hn (upR_off (by decide)) (upR_off (by decide)), ?_, S.am.of (fun c => hJ 23 c), ?_⟩
  · rw [upR_at, if_neg (by omega)]; exact S.q0
  · rw [upR_at, if_neg (by omega)]; exact S.q1
  · rw [upR_at, if_pos ⟨rfl, rfl⟩]
  · unfold eN; rw [upI_at, if_pos ⟨rfl, rfl, rfl⟩, S.jn, nI_1]
  · intro i t hi h1 h2
    unfold mpy
    rw [hJ]
    exact S.v i t hi (by omega) h2
  · have P2 := YP.of (J' := eN J) S.p (fun f c _ => hJ f c)
    intro h k hh hx hp hk hs ht
    exact P2 h k hh hx hp hk hs (by omega)
theorem YS.zeros {h : Nat} (S : YS ex z nw J L) (hz : ∀ k, k < mh J h → ¬ J 13 17 h = -1 → mpy J (1004 * msp J h + (mfr J h + k)) = 0) : YS (fun j => ex j ∧ j ≠ h) z nw J L := ⟨S.m, S.a, S.c, S.w, S.q, S.u, S.v, S.am, fun j k hj hn hp hk hs ht => by
  by_cases e : j = h
  · subst e; exact hz k hk hs
  · exact S.p j k hj (fun q => hn ⟨q, e⟩) hp hk hs ht⟩
theorem mCmS_mpy {h m k q : Nat} : mpy (mCmS h m k J) q = if q = mAt J h k then 0 else mpy J q := by
  rw [mCmS_eq rfl rfl rfl rfl]
  unfold mpy
  rw [upI_at, if_neg (by omega), upI_at, if_neg (by omega), upI_at, if_neg (by omega), upI_at]
  by_cases e : q = mAt J h k
  · rw [if_pos ⟨rfl, rfl, e⟩, if_pos e]; decide
  · rw [if_neg (fun x => e x.2.2), if_neg e]
    split
    · rfl
    · rw [upI_at, if_neg (by omega)]
theorem mCmL_zero {h m s f : Nat} : ∀ (n k : Nat) (J : wI), msp J h = s → mfr J h = f → ∀ k', (k ≤ k' ∧ k' < k + n) ∨ mpy J (1004 * s + (f + k')) = 0 → mpy (mCmL h m n k J) (1004 * s + (f + k')) = 0
  | 0, k, J, _, _, k', hk => hk.resolve_left (by omega)
  | n + 1, k, J, hs, hf, k', hk => by
    show mpy (mCmL h m n (k + 1) (mCmS h m k J)) _ = 0
    refine mCmL_zero n (k + 1) (mCmS h m k J) ?_ ?_ k' ?_
    · rw [msp_of (mCmS_off (by decide) (by decide) (by decide) (by decide))]; exact hs
    · rw [mfr_of (mCmS_off (by decide) (by decide) (by decide) (by decide))]; exact hf
    · rw [mCmS_mpy]
      have hq : mAt J h k = 1004 * s + (f + k) := by unfold mAt; rw [hs, hf]; omega
      rw [hq]
      by_cases e : k' = k
      · right; rw [if_pos (by rw [e])]
      · rcases hk with hk | hk
        · left; omega
        · right; split
          · rfl
          · exact hk
theorem mCmL_rw {h m f x : Nat} (h1 : f ≠ 11) (h2 : f ≠ 21) (h3 : f ≠ 22) (h4 : f ≠ 23) : ∀ (n k : Nat) (J : wI), mCmL h m n k J 13 f x = J 13 f x
  | 0, _, _ => rfl
  | n + 1, k, J => by
    show mCmL h m n (k + 1) (mCmS h m k J) 13 f x = _
    rw [mCmL_rw h1 h2 h3 h4 n (k + 1), mCmS_off h1 h2 h3 h4]
end WLs2
