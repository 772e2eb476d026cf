section WSim11
variable {z z' : wZ} {nw nw' : Nat} {I I' : wI} {P P' : wP} {J J' : wI}
/-- within an hour that ends: k hearings and km matters done -/
def EI (z : wZ) (nw : Nat) (I : wI) (P : wP) (J : wI) (k km : Nat) : Prop := XI z I P ∧ MI z.1 z.2 J ∧ SN nw I J ∧ SI I J ∧ SW I J ∧ (∀ m, m < z.1 → MR I J m) ∧ (∀ m, m < z.1 → I 2 m 7 + (if km ≤ m ∧ J 13 6 m = 3 then 1 else 0) = J 13 12 m) ∧ SF z J ∧ (∀ h, h < z.2 → HR I P J h) ∧ (∀ h, h < z.2 → J 13 14 h = 0 → nw ≤ mfr J h + mh J h ∧ (h < k → nw < mfr J h + mh J h)) ∧ NC z.2 J ∧ SC z.2 I J ∧ SB z.1 I J ∧ SP nw I P J
theorem EI.hst {k km h : Nat} {v : Int32} (E : EI z nw I P J k km) (hh : h < z.2) (hk : h = k) (hv : ¬ v = 0) : EI z nw (upI I 3 h 4 v) P (upI J 13 14 h v) (k + 1) km := by
  obtain ⟨X, M, n, i, w, m, e, f, hr, hn, nc, c, b, d⟩ := E
  have h14 : ∀ x, upI J 13 14 h v 13 14 x = if x = h then v else J 13 14 x := fun x => by simp [upI_at]
  have hJ : ∀ f x, f ≠ 14 → upI J 13 14 h v 13 f x = J 13 f x := fun f x hf => by rw [upI_at, if_neg (by omega)]
  have hJ12 : ∀ a b, upI J 13 14 h v 12 a b = J 12 a b := fun a b => by rw [upI_at, if_neg (by omega)]
  have hI : ∀ k j c, k ≠ 3 → upI I 3 h 4 v k j c = I k j c := fun k j c hc => by rw [upI_at, if_neg (by omega)]
  refine ⟨XI.upI X _ (by omega) (by omega) (by omega), M.up _ (by omega), ?_, ?_, ?_, ?_, ?_, ?_, fun q hq => (hr q hq).st, ?_, nc.st hv, c.of (fun j c => hI _ _ _ (by decide)) (fun c => hJ _ _ (by decide)) (fun c => hJ _ _ (by decide)) (fun c => hJ _ _ (by decide)), ?_, d.of (upI_kind (by decide)) (upI_kind (by decide)) rfl (fun c => hJ _ _ (by decide)) (fun c => hJ _ _ (by decide))⟩
  · unfold SN at *; rw [hI _ _ _ (by decide), hJ12]; exact n
  · intro q hq; rw [hI _ _ _ (by decide), hI _ _ _ (by decide), hJ _ _ (by decide), hJ _ _ (by decide)]; exact i q hq
  · intro q hq; rw [hI _ _ _ (by decide), hJ _ _ (by decide)]; exact w q hq
  · intro q hq; unfold MR; rw [hI _ _ _ (by decide), hI _ _ _ (by decide), hI _ _ _ (by decide), hI _ _ _ (by decide), hI _ _ _ (by decide), hI _ _ _ (by decide), hJ _ _ (by decide), hJ _ _ (by decide), hJ _ _ (by decide), hJ _ _ (by decide), hJ _ _ (by decide)]; exact m q hq
  · intro q hq; rw [hI _ _ _ (by decide), hJ _ _ (by decide), hJ _ _ (by decide)]; exact e q hq
  · refine ⟨fun q h1 h2 => ?_, fun q h1 h2 => ?_⟩
    · rw [hJ _ _ (by decide)]; exact f.1 q h1 h2
    · rw [h14, if_neg (by omega), hJ _ _ (by decide)]; exact f.2 q h1 h2
  · intro q hq p
    rw [h14] at p
    by_cases e1 : q = h
    · rw [if_pos e1] at p; exact absurd p hv
    · rw [if_neg e1] at p
      have := hn q hq p
      unfold mfr mh at *
      rw [hJ _ _ (by decide), hJ _ _ (by decide)]
      exact ⟨this.1, fun h2 => this.2 (by omega)⟩
  · intro q hq; rw [hI _ _ _ (by decide), hJ _ _ (by decide)]; exact b q hq
theorem EI.stt {k km m0 : Nat} {v : Int32} (E : EI z nw I P J k km) (hm : m0 < z.1) (h3 : ¬ J 13 6 m0 = 3) (hv : ¬ v = 3) : EI z nw (upI I 2 m0 5 v) P (upI J 13 6 m0 v) k km := by
  obtain ⟨X, M, n, i, w, m, e, f, hr, hn, nc, c, b, d⟩ := E
  have h6 : ∀ x, upI J 13 6 m0 v 13 6 x = if x = m0 then v else J 13 6 x := fun x => by simp [upI_at]
  have hJ : ∀ f x, f ≠ 6 → upI J 13 6 m0 v 13 f x = J 13 f x := fun f x hf => by rw [upI_at, if_neg (by omega)]
  have hJ12 : ∀ a b, upI J 13 6 m0 v 12 a b = J 12 a b := fun a b => by rw [upI_at, if_neg (by omega)]
  have hI : ∀ k j c, k ≠ 2 ∨ c ≠ 5 → upI I 2 m0 5 v k j c = I k j c := fun k j c hc => by rw [upI_at, if_neg (by omega)]
  have hI5 : ∀ x, upI I 2 m0 5 v 2 x 5 = if x = m0 then v else I 2 x 5 := fun x => by simp [upI_at]
  refine ⟨XI.upI X _ (by omega) (by omega) (by omega), M.up _ (by omega), ?_, ?_, ?_, ?_, ?_, ?_, ?_, ?_, ?_, c.of (fun j c => hI _ _ _ (by omega)) (fun c => hJ _ _ (by decide)) (fun c => hJ _ _ (by decide)) (fun c => hJ _ _ (by decide)), ?_, d.of (upI_kind (by decide)) (upI_kind (by decide)) rfl (fun c => hJ _ _ (by decide)) (fun c => hJ _ _ (by decide))⟩
  · unfold SN at *; rw [hI _ _ _ (by omega), hJ12]; exact n
  · intro q hq; rw [hI _ _ _ (by omega), hI _ _ _ (by omega), hJ _ _ (by decide), hJ _ _ (by decide)]; exact i q hq
  · intro q hq; rw [hI _ _ _ (by omega), hJ _ _ (by decide)]; exact w q hq
  · intro q hq
    have := m q hq
    unfold MR at *
    rw [hI _ _ 0 (by omega), hI _ _ 1 (by omega), hI _ _ 2 (by omega), hI _ _ 3 (by omega), hI _ _ 4 (by omega), hI5, h6, hJ _ _ (by decide), hJ _ _ (by decide), hJ _ _ (by decide), hJ _ _ (by decide)]
    obtain ⟨a0, a1, a2, a3, a4, a5, a6⟩ := this
    exact ⟨a0, a1, a2, a3, a4, by rw [a5], a6⟩
  · intro q hq
    have := e q hq
    rw [hI _ _ _ (by omega), hJ 12 _ (by decide), h6]
    by_cases e1 : q = m0
    · subst e1
      rw [if_neg (fun q => h3 q.2)] at this
      rw [if_pos rfl, if_neg (fun q => hv q.2)]
      exact this
    · rw [if_neg e1]; exact this
  · refine ⟨fun q h1 h2 => ?_, fun q h1 h2 => ?_⟩
    · rw [h6, if_neg (by omega)]; exact f.1 q h1 h2
    · rw [hJ _ _ (by decide), hJ _ _ (by decide)]; exact f.2 q h1 h2
  · intro q hq
    have := hr q hq
    simpa only [HR, mm, mh, hI 3 _ _ (Or.inl (by decide)), hJ 14 _ (by decide), hJ 15 _ (by decide), hJ 16 _ (by decide), hJ 17 _ (by decide), hJ 18 _ (by decide), hJ 19 _ (by decide), hJ 20 _ (by decide)] using this
  · intro q hq p
    rw [hJ _ _ (by decide)] at p
    have := hn q hq p
    unfold mfr mh at *
    rw [hJ _ _ (by decide), hJ _ _ (by decide)]
    exact this
  · simpa only [NC, sm2, mm, hJ 7 _ (by decide), hJ 8 _ (by decide), hJ 9 _ (by decide), hJ 14 _ (by decide), hJ 15 _ (by decide), hJ 16 _ (by decide), hJ 17 _ (by decide), hJ 18 _ (by decide), hJ 19 _ (by decide)] using nc
  · intro q hq; rw [hI _ _ _ (by omega), hJ _ _ (by decide)]; exact b q hq
/-- the class's end of a term, one hour later -/
theorem EI.en {k km : Nat} {v : Int32} (E : EI z nw I P J k km) (hv : J 13 12 km = v) : EI z nw (upI I 2 km 7 v) P J k (km + 1) := by
  obtain ⟨X, M, n, i, w, m, e, f, hr, hn, nc, c, b, d⟩ := E
  have hI : ∀ k j c, k ≠ 2 ∨ c ≠ 7 → upI I 2 km 7 v k j c = I k j c := fun k j c hc => by rw [upI_at, if_neg (by omega)]
  have hI7 : ∀ x, upI I 2 km 7 v 2 x 7 = if x = km then v else I 2 x 7 := fun x => by simp [upI_at]
  refine ⟨XI.upI X _ (by omega) (by omega) (by omega), M, ?_, ?_, ?_, ?_, ?_, f, ?_, hn, nc, c.of (fun j c => hI _ _ _ (by omega)) (fun _ => rfl) (fun _ => rfl) (fun _ => rfl), ?_, d.of (upI_kind (by decide)) (upI_kind (by decide)) rfl (fun _ => rfl) (fun _ => rfl)⟩
  · unfold SN at *; rw [hI _ _ _ (by omega)]; exact n
  · intro q hq; rw [hI _ _ _ (by omega), hI _ _ _ (by omega)]; exact i q hq
  · intro q hq; rw [hI _ _ _ (by omega)]; exact w q hq
  · intro q hq; unfold MR; rw [hI _ _ 0 (by omega), hI _ _ 1 (by omega), hI _ _ 2 (by omega), hI _ _ 3 (by omega), hI _ _ 4 (by omega), hI _ _ 5 (by omega)]; exact m q hq
  · intro q hq
    have := e q hq
    rw [hI7]
    by_cases e1 : q = km
    · subst e1
      rw [if_pos rfl, if_neg (fun q => by omega), Int32.add_zero, hv]
    · rw [if_neg e1]
      by_cases e2 : km ≤ q ∧ J 13 6 q = 3
      · rw [if_pos e2] at this
        rw [if_pos ⟨by omega, e2.2⟩]; exact this
      · rw [if_neg e2] at this
        rw [if_neg (fun q => e2 ⟨by omega, q.2⟩)]; exact this
  · intro q hq
    have := hr q hq
    simpa only [HR, hI 3 _ _ (Or.inl (by decide))] using this
  · intro q hq; rw [hI _ _ _ (by omega)]; exact b q hq
theorem EI.nx {k km : Nat} (E : EI z nw I P J k km) (h3 : ¬ J 13 6 km = 3) : EI z nw I P J k (km + 1) := by
  obtain ⟨X, M, n, i, w, m, e, f, hr, hn, nc, c, b, d⟩ := E
  refine ⟨X, M, n, i, w, m, fun q hq => ?_, f, hr, hn, nc, c, b, d⟩
  have := e q hq
  by_cases e2 : km ≤ q ∧ J 13 6 q = 3
  · rw [if_pos e2] at this
    have hne : q ≠ km := fun q1 => h3 (q1 ▸ e2.2)
    rw [if_pos ⟨by omega, e2.2⟩]; exact this
  · rw [if_neg e2] at this
    rw [if_neg (fun q => e2 ⟨by omega, q.2⟩)]; exact this
theorem EI.sk {k km : Nat} (E : EI z nw I P J k km) (hk : J 13 14 k = 0 → nw < mfr J k + mh J k) : EI z nw I P J (k + 1) km := by
  obtain ⟨X, M, n, i, w, m, e, f, hr, hn, nc, c, b, d⟩ := E
  refine ⟨X, M, n, i, w, m, e, f, hr, fun q hq p => ⟨(hn q hq p).1, fun h2 => ?_⟩, nc, c, b, d⟩
  by_cases e1 : q = k
  · subst e1; exact hk p
  · exact (hn q hq p).2 (by omega)
theorem HT.three {a b c : Int32} (h : HT a b c) : c = 3 ↔ ¬ a = 0 ∧ ¬ b = 0 := by
  rcases h with ⟨rfl, rfl, rfl⟩ | ⟨rfl, rfl, rfl⟩ | ⟨rfl, rfl, rfl⟩ | ⟨rfl, rfl, rfl⟩ <;> decide
theorem isOp_3 {s : Int32} (h : isOp s = true) : ¬ s = 3 := fun e => by rw [e] at h; exact absurd h (by decide)
theorem eh_step {s : wI × Int32} {J : wI × Int32} {km h : Nat} (E : EI z nw s.1 P J.1 h km) (hc : s.2 = J.2) (hh : h < z.2) : EI z nw (ehS P h s).1 P (eBS h J).1 (h + 1) km ∧ (ehS P h s).2 = (eBS h J).2 := by
  have E0 := E
  obtain ⟨X, M, n, i, w, m, e, f, hr, hn, nc, c, b, d⟩ := E
  obtain ⟨n1, n2, n3⟩ := n
  obtain ⟨a0, a1, a2, a4, a5, a6, a7, a8, a9⟩ := hr h hh
  obtain ⟨e18, hf9⟩ := M.fr hh
  have e19 := M.hr hh
  have h4 := M.hr4 hh
  have hmM := M.mtM hh
  have hmx : mx P h = mm J.1 h := by unfold mx; rw [a1]; rfl
  have hst := (m _ hmM).2.2.2.2.2.1
  unfold ehS eBS
  rw [hmx, a4, a7, a2, n1, n2, e18, e19, nI_add]
  by_cases hp : J.1 13 14 h = 0
  · obtain ⟨h1, -⟩ := hn h hh hp
    by_cases hl : nw < mfr J.1 h + mh J.1 h
    · rw [if_neg (fun q => q.2 ((nI_ltI (by omega) (by omega)).mpr hl)), if_neg (fun q => by have := (nI_eq (by omega) (by omega)).mp q.2; omega)]
      exact ⟨E0.sk (fun _ => hl), hc⟩
    · have he : mfr J.1 h + mh J.1 h = nw := by omega
      have c1 : J.1 13 14 h = 0 ∧ ¬ nI nw < nI (mfr J.1 h + mh J.1 h) := ⟨hp, fun q => hl ((nI_ltI (by omega) (by omega)).mp q)⟩
      have c2 : J.1 13 14 h = 0 ∧ nI (mfr J.1 h + mh J.1 h) = nI nw := ⟨hp, by rw [he]⟩
      rw [if_pos c1, if_pos c2]
      have hB : eB J.1 h = true ↔ (isOp (s.1 2 (mm J.1 h) 5) = true ∧ ¬ s.1 3 h 8 = 0 ∧ ¬ s.1 3 h 9 = 0) := by
        unfold eB mOp
        rw [Bool.and_eq_true, decide_eq_true_eq, a8.three, hst]
      unfold hE
      by_cases hb : eB J.1 h = true
      · have hb2 := hB.mp hb
        rw [if_pos hb2, if_pos hb]
        have ho : isOp (J.1 13 6 (mm J.1 h)) = true := by rw [← hst]; exact hb2.1
        have hmm : mm (upI J.1 13 14 h 1) h = mm J.1 h := by unfold mm; rw [upI_at, if_neg (by omega)]
        refine ⟨(E0.hst hh rfl (v := 1) (by decide)).stt (v := 1) hmM (by rw [upI_at, if_neg (by omega)]; exact isOp_3 ho) (by decide), ?_⟩
        show (if upI (upI s.1 3 h 4 1) 2 (mm J.1 h) 5 1 3 h 4 = 1 then s.2 + 1 else s.2) = J.2 + 1
        have q1 : upI (upI s.1 3 h 4 1) 2 (mm J.1 h) 5 1 3 h 4 = 1 := by rw [upI_at, if_neg (by omega), upI_at, if_pos ⟨rfl, rfl, rfl⟩]
        rw [if_pos q1, hc]
      · rw [if_neg (fun q => hb (hB.mpr q)), if_neg hb]
        have hself : upI (upI J.1 13 14 h 2) 13 6 (mm J.1 h) (J.1 13 6 (mm J.1 h)) = upI J.1 13 14 h 2 := by
          have := upI_self (upI J.1 13 14 h 2) 13 6 (mm J.1 h)
          rw [upI_at, if_neg (by omega)] at this
          exact this
        show EI z nw (upI s.1 3 h 4 2) P (upI (upI J.1 13 14 h 2) 13 6 (mm J.1 h) (J.1 13 6 (mm J.1 h))) (h + 1) km ∧ (if upI s.1 3 h 4 2 3 h 4 = 1 then s.2 + 1 else s.2) = J.2 + 0
        rw [hself]
        refine ⟨E0.hst hh rfl (by decide), ?_⟩
        have q1 : ¬ upI s.1 3 h 4 2 3 h 4 = 1 := by rw [upI_at, if_pos ⟨rfl, rfl, rfl⟩]; decide
        rw [if_neg q1, Int32.add_zero, hc]
  · rw [if_neg (fun q => hp q.1), if_neg (fun q => hp q.1)]
    exact ⟨E0.sk (fun q => absurd q hp), hc⟩
theorem eh_loop {km : Nat} : ∀ (n h : Nat) (s : wI × Int32) (J : wI × Int32), EI z nw s.1 P J.1 h km → s.2 = J.2 → h + n = z.2 → EI z nw (ehL P n h s).1 P (eBL n h J).1 z.2 km ∧ (ehL P n h s).2 = (eBL n h J).2
  | 0, h, s, J, E, hc, e => ⟨(show h = z.2 by omega) ▸ E, hc⟩
  | n + 1, h, s, J, E, hc, e => by
    obtain ⟨E2, h2⟩ := eh_step E hc (show h < z.2 by omega)
    exact eh_loop n (h + 1) _ _ E2 h2 (by omega)
theorem rt_step {k m : Nat} (E : EI z nw I P J k m) (hm : m < z.1) : EI z nw (rT I m (nI nw)) P (eCS m J) k (m + 1) := by
  have E0 := E
  obtain ⟨X, M, n, i, w, mr, e, f, hr, hn, nc, c, b, d⟩ := E
  obtain ⟨n1, n2, n3⟩ := n
  have hst := (mr m hm).2.2.2.2.2.1
  have he := e m hm
  unfold rT eCS mOp
  rw [hst, n2]
  by_cases h3 : J 13 6 m = 3
  · rw [if_pos ⟨Nat.le_refl _, h3⟩] at he
    rw [if_pos h3, if_neg (fun q => isOp_3 q.1 h3), upI_self]
    exact E0.en he.symm
  · rw [if_neg (fun q => h3 q.2), Int32.add_zero] at he
    rw [if_neg h3, he]
    by_cases ho : isOp (J 13 6 m) = true ∧ ¬ nI nw < J 13 12 m
    · rw [if_pos ho, if_pos ho]
      exact (E0.stt hm h3 (by decide)).nx (by rw [upI_at, if_pos ⟨rfl, rfl, rfl⟩]; decide)
    · rw [if_neg ho, if_neg ho, upI_self]
      exact E0.nx h3
theorem rt_loop {k : Nat} : ∀ (n m : Nat) (I J : wI), EI z nw I P J k m → m + n = z.1 → EI z nw (rtL (nI nw) n m I) P (eCL n m J) k z.1
  | 0, m, _, _, E, e => (show m = z.1 by omega) ▸ E
  | n + 1, m, I, J, E, e => rt_loop n (m + 1) _ _ (rt_step E (by omega)) (by omega)
theorem eAL_at : ∀ (n m : Nat) (J : wI), (∀ k j c, ¬ (k = 13 ∧ j = 12) → eAL n m J k j c = J k j c) ∧ ∀ x, eAL n m J 13 12 x = if m ≤ x ∧ x < m + n then J 13 12 x + (if J 13 6 x = 3 then 1 else 0) else J 13 12 x
  | 0, m, J => ⟨fun _ _ _ _ => rfl, fun x => by rw [if_neg (by omega)]; rfl⟩
  | n + 1, m, J => by
    obtain ⟨a, b⟩ := eAL_at n (m + 1) (eAS m J)
    have ho : ∀ k j c, ¬ (k = 13 ∧ j = 12) → eAS m J k j c = J k j c := fun k j c h => by unfold eAS; rw [upI_at, if_neg (by omega)]
    refine ⟨fun k j c h => (a k j c h).trans (ho k j c h), fun x => ?_⟩
    show eAL n (m + 1) (eAS m J) 13 12 x = _
    rw [b x, ho 13 6 x (by omega)]
    by_cases e : x = m
    · subst e
      rw [if_neg (c := x + 1 ≤ x ∧ x < x + 1 + n) (by omega), if_pos (c := x ≤ x ∧ x < x + (n + 1)) (by omega)]
      unfold eAS
      rw [upI_at, if_pos ⟨rfl, rfl, rfl⟩]
    · have h12 : eAS m J 13 12 x = J 13 12 x := by unfold eAS; rw [upI_at, if_neg (by omega)]
      rw [h12]
      by_cases e2 : m + 1 ≤ x ∧ x < m + 1 + n
      · rw [if_pos e2, if_pos (c := m ≤ x ∧ x < m + (n + 1)) (by omega)]
      · rw [if_neg e2, if_neg (c := m ≤ x ∧ x < m + (n + 1)) (by omega)]
theorem PR.next {i : Nat} (R : PR I P J nw i) (hn : nw + 1 ≤ 1000) : PR I P J (nw + 1) i := by
  obtain ⟨R1, R2⟩ := R
  refine ⟨fun t h1 h2 => ?_, fun p q hp hq => ?_⟩
  · have e : py I P i (nI t) (nI (nw + 1)) = py I P i (nI t) (nI nw) := by
      unfold py
      have a : ¬ nI t ≤ nI (nw + 1) := nI_ge h1 (by omega)
      have b : ¬ nI t ≤ nI nw := nI_ge (by omega) (by omega)
      simp only [a, b]
    rw [e]
    exact R1 t (by omega) h2
  · obtain ⟨t, a, b, c, d⟩ := R2 p q hp hq
    exact ⟨t, a, b, c, by omega⟩
/-- an hour goes by -/
theorem pass_step {s J : wI × Int32} (S : Sim z nw s.1 P J.1) (hc : s.2 = J.2) (hn : nw + 1 ≤ 1000) : Sim z (nw + 1) (cPS P z s).1 P (mEn z.1 z.2 J.1).1 ∧ (cPS P z s).2 = J.2 + (mEn z.1 z.2 J.1).2 := by
  obtain ⟨n1, n2, n3⟩ := S.A.n
  obtain ⟨a, b⟩ := eAL_at z.1 0 J.1
  have hJ : ∀ f x, f ≠ 12 → eN (eAL z.1 0 J.1) 13 f x = J.1 13 f x := fun f x h => by unfold eN; rw [upI_at, if_neg (by omega)]; exact a _ _ _ (by omega)
  have hI : ∀ k j c, k ≠ 0 → upI s.1 0 0 6 (s.1 0 0 6 + 1) k j c = s.1 k j c := fun k j c h => by rw [upI_at, if_neg (by omega)]
  have E0 : EI z (nw + 1) (upI s.1 0 0 6 (s.1 0 0 6 + 1)) P (eN (eAL z.1 0 J.1)) 0 0 := by
    refine ⟨XI.upI S.X _ (by omega) (by omega) (by omega), (MI.eAL' _ _ _ S.M).up _ (by omega), ⟨?_, ?_, hn⟩, ?_, ?_, ?_, ?_, ?_, ?_, ?_, ?_, ?_, ?_, ?_⟩
    · rw [upI_at, if_pos ⟨rfl, rfl, rfl⟩, n1, nI_1]
    · unfold eN; rw [upI_at, if_pos ⟨rfl, rfl, rfl⟩, a _ _ _ (by omega), n2, nI_1]
    · intro q hq; rw [hI _ _ _ (by decide), hI _ _ _ (by decide), hJ _ _ (by decide), hJ _ _ (by decide)]; exact S.A.i q hq
    · intro q hq; rw [hI _ _ _ (by decide), hJ _ _ (by decide)]; exact S.A.w q hq
    · intro q hq; unfold MR; rw [hI _ _ _ (by decide), hI _ _ _ (by decide), hI _ _ _ (by decide), hI _ _ _ (by decide), hI _ _ _ (by decide), hI _ _ _ (by decide), hJ _ _ (by decide), hJ _ _ (by decide), hJ _ _ (by decide), hJ _ _ (by decide), hJ _ _ (by decide)]; exact S.A.m hq
    · intro q hq
      have h12 : eN (eAL z.1 0 J.1) 13 12 q = eAL z.1 0 J.1 13 12 q := by unfold eN; rw [upI_at, if_neg (by omega)]
      rw [hI _ _ _ (by decide), hJ 6 _ (by decide), h12, b q, if_pos (c := 0 ≤ q ∧ q < 0 + z.1) (by omega), S.A.e q hq]
      by_cases e : J.1 13 6 q = 3
      · rw [if_pos ⟨Nat.zero_le _, e⟩, if_pos e]
      · rw [if_neg (fun x => e x.2), if_neg e]
    · refine ⟨fun q h1 h2 => ?_, fun q h1 h2 => ?_⟩
      · rw [hJ _ _ (by decide)]; exact S.A.f.1 q h1 h2
      · rw [hJ _ _ (by decide), hJ _ _ (by decide)]; exact S.A.f.2 q h1 h2
    · intro q hq
      have := S.A.h hq
      simpa only [HR, mm, mh, hI 3 _ _ (by decide), hJ 14 _ (by decide), hJ 15 _ (by decide), hJ 16 _ (by decide), hJ 17 _ (by decide), hJ 18 _ (by decide), hJ 19 _ (by decide), hJ 20 _ (by decide)] using this
    · intro q hq p
      rw [hJ _ _ (by decide)] at p
      have := S.A.hn hq p
      unfold mfr mh at *
      rw [hJ _ _ (by decide), hJ _ _ (by decide)]
      exact ⟨by omega, fun h => by omega⟩
    · simpa only [NC, sm2, mm, hJ 7 _ (by decide), hJ 8 _ (by decide), hJ 9 _ (by decide), hJ 14 _ (by decide), hJ 15 _ (by decide), hJ 16 _ (by decide), hJ 17 _ (by decide), hJ 18 _ (by decide), hJ 19 _ (by decide)] using S.A.nc
    · exact S.C.of (fun j c => hI _ _ _ (by decide)) (fun c => hJ _ _ (by decide)) (fun c => hJ _ _ (by decide)) (fun c => hJ _ _ (by decide))
    · intro q hq; rw [hI _ _ _ (by decide), hJ _ _ (by decide)]; exact S.B q hq
    · have d2 : SP (nw + 1) s.1 P J.1 := fun i hi => (S.D i hi).next hn
      exact d2.of (upI_kind (by decide)) (upI_kind (by decide)) rfl (fun c => hJ _ _ (by decide)) (fun c => hJ _ _ (by decide))
  obtain ⟨E1, h1⟩ := eh_loop (km := 0) z.2 0 (upI s.1 0 0 6 (s.1 0 0 6 + 1), 0) (eN (eAL z.1 0 J.1), 0) E0 rfl (by omega)
  have hnow := E1.2.2.1.1
  have E2 := rt_loop z.1 0 _ _ E1 (by omega)
  unfold cPS mEn
  rw [hnow]
  refine ⟨?_, by rw [h1, hc]⟩
  obtain ⟨X, M, n, i, w, m, e, f, hr, hn, nc, c, b, d⟩ := E2
  refine ⟨X, M, ⟨n, i, w, m, fun q hq => ?_, f, hr, fun q hq p => (hn q hq p).2 hq, nc⟩, c, b, d⟩
  have := e q hq
  rw [if_neg (fun x => by omega), Int32.add_zero] at this
  exact this
theorem pass_loop : ∀ (n nw : Nat) (s J : wI × Int32), Sim z nw s.1 P J.1 → s.2 = J.2 → nw + n ≤ 1000 → Sim z (nw + n) (cPL P z n s).1 P (mPL z.1 z.2 n J).1 ∧ (cPL P z n s).2 = (mPL z.1 z.2 n J).2
  | 0, _, _, _, S, hc, _ => ⟨S, hc⟩
  | n + 1, nw, s, J, S, hc, e => by
    obtain ⟨S2, h2⟩ := pass_step S hc (by omega)
    have := pass_loop n (nw + 1) (cPS P z s) ((mEn z.1 z.2 J.1).1, J.2 + (mEn z.1 z.2 J.1).2) S2 h2 (by omega)
    rw [show nw + 1 + n = nw + (n + 1) by omega] at this
    exact this
theorem mPL_0 {M N : Nat} : ∀ (n : Nat) (J : wI × Int32), (mPL M N n J).1 12 0 0 = J.1 12 0 0
  | 0, _ => rfl
  | n + 1, J => (mPL_0 n _).trans (mEn_off (by decide) (by omega))
theorem s_pass (S : Sim z nw I P J) {x : Int32} : ∃ nw', OpR z z nw nw' I (cPL P z x.toNatClampNeg (I, 0)).1 P P (cK12 (I 0 0 6) x) (cPL P z x.toNatClampNeg (I, 0)).2 (mO12 J z.1 z.2 x) := by
  obtain ⟨n1, n2, n3⟩ := S.A.n
  have e : cK12 (I 0 0 6) x = mK12 (J 12 0 1) x := by
    unfold cK12 mK12
    rw [S.eI]
    have h1 : inR x 1 50 = true ↔ ¬ (x < 1 ∨ ¬ x ≤ 50) := by rw [inR_pos, Int32.not_le]
    by_cases a : x < 1 ∨ ¬ x ≤ 50
    · rw [if_pos a, if_neg (fun q => h1.mp q a)]
    · rw [if_neg a, if_pos (h1.mpr a)]
  have hm : mO12 J z.1 z.2 x = if mK12 (J 12 0 1) x = 0 then ((mPL z.1 z.2 x.toNatClampNeg (th J 0, 0)).1, (mPL z.1 z.2 x.toNatClampNeg (th J 0, 0)).2) else (th J (mK12 (J 12 0 1) x), 0) := rfl
  refine ⟨nw + x.toNatClampNeg, ?_⟩
  rw [hm]
  refine OpR.mk S e (fun _ => by rw [mPL_0]; exact thv J 0) (fun h => ?_)
  have hx : x.toNatClampNeg ≤ 50 ∧ nw + x.toNatClampNeg ≤ 1000 := by
    unfold mK12 at h
    rw [n2] at h
    split at h
    · next h1 =>
      obtain ⟨k, k1, k2, rfl⟩ := inR_lo (lo := 1) (hi := 50) (by decide) (by decide) h1
      rw [nI_clamp (by omega)]
      split at h
      · exact absurd h (by decide)
      · next h2 =>
        have h3 : nI nw + nI k ≤ 1000 := Classical.byContradiction h2
        rw [nI_add] at h3
        have h4 := (nI_leI (a := nw + k) (b := 1000) (by omega) (by decide)).mp h3
        exact ⟨k2, h4⟩
    · exact absurd h (by decide)
  obtain ⟨a, b⟩ := pass_loop x.toNatClampNeg nw (I, 0) (th J 0, 0) (S.thr 0) rfl hx.2
  exact ⟨b, a⟩
end WSim11
