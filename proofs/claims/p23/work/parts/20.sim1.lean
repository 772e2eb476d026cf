section WSim1
variable {z z' : wZ} {nw nw' : Nat} {I I' : wI} {P P' : wP} {J J' : wI}
theorem Sim.of (S : Sim z nw I P J) (DI : Nat → Nat → Prop) (DJ : Nat → Prop) (hI : ∀ k j c, k < 12 → ¬ DI k c → I' k j c = I k j c) (hJ : ∀ f c, ¬ DJ f → J' 13 f c = J 13 f c) (hP : ∀ k, k ≠ 9 → P' k = P k) (hX : XI z I' P') (hM : MI z.1 z.2 J')
    (n : (¬ DI 0 6 ∧ J' 12 0 1 = J 12 0 1) ∨ SN nw I' J')
    (i : (¬ DI 1 0 ∧ ¬ DI 1 1 ∧ ¬ DJ 2 ∧ ¬ DJ 3) ∨ SI I' J')
    (w : ((∀ c, ¬ DI 5 c) ∧ ¬ DJ 4) ∨ SW I' J')
    (m : (¬ DI 2 0 ∧ ¬ DI 2 1 ∧ ¬ DI 2 2 ∧ ¬ DI 2 3 ∧ ¬ DI 2 4 ∧ ¬ DI 2 5 ∧ ¬ DJ 6 ∧ ¬ DJ 7 ∧ ¬ DJ 8 ∧ ¬ DJ 9 ∧ ¬ DJ 10) ∨ ∀ m, m < z.1 → MR I' J' m)
    (e : (¬ DI 2 7 ∧ ¬ DJ 12) ∨ SE z.1 I' J')
    (f : (¬ DJ 6 ∧ ¬ DJ 14 ∧ ¬ DJ 20) ∨ SF z J')
    (h : (¬ DI 3 0 ∧ ¬ DI 3 2 ∧ ¬ DI 3 4 ∧ ¬ DI 3 5 ∧ ¬ DI 3 6 ∧ ¬ DI 3 7 ∧ ¬ DI 3 8 ∧ ¬ DI 3 9 ∧ ¬ DJ 14 ∧ ¬ DJ 15 ∧ ¬ DJ 16 ∧ ¬ DJ 17 ∧ ¬ DJ 18 ∧ ¬ DJ 19 ∧ ¬ DJ 20) ∨ ∀ h, h < z.2 → HR I' P' J' h)
    (hn : (¬ DJ 14 ∧ ¬ DJ 18 ∧ ¬ DJ 19) ∨ ∀ h, h < z.2 → HN nw J' h)
    (nc : (¬ DJ 7 ∧ ¬ DJ 8 ∧ ¬ DJ 9 ∧ ¬ DJ 14 ∧ ¬ DJ 15 ∧ ¬ DJ 16 ∧ ¬ DJ 17 ∧ ¬ DJ 18 ∧ ¬ DJ 19) ∨ NC z.2 J')
    (c : ((∀ c, ¬ DI 11 c) ∧ ¬ DJ 17 ∧ ¬ DJ 19 ∧ ¬ DJ 21) ∨ SC z.2 I' J')
    (b : (¬ DI 2 6 ∧ ¬ DJ 11) ∨ SB z.1 I' J')
    (d : ((∀ c, ¬ DI 8 c) ∧ (∀ c, ¬ DI 10 c) ∧ P' 9 = P 9 ∧ ¬ DJ 22 ∧ ¬ DJ 23) ∨ SP nw I' P' J') : Sim z nw I' P' J' := by
  refine ⟨hX, hM, ⟨?_, ?_, ?_, ?_, ?_, ?_, ?_, ?_, ?_⟩, ?_, ?_, ?_⟩
  · rcases n with ⟨a, a2⟩ | n
    · have := S.A.n; exact ⟨(hI 0 0 6 (by decide) a).trans this.1, a2.trans this.2.1, this.2.2⟩
    · exact n
  · rcases i with ⟨a, a2, a3, a4⟩ | i
    · intro q hq; rw [hI 1 q 0 (by decide) a, hI 1 q 1 (by decide) a2, hJ 2 q a3, hJ 3 q a4]; exact S.A.i q hq
    · exact i
  · rcases w with ⟨a, a2⟩ | w
    · intro q hq; rw [hI 5 0 q (by decide) (a q), hJ 4 q a2]; exact S.A.w q hq
    · exact w
  · rcases m with ⟨a0, a1, a2, a3, a4, a5, b6, b7, b8, b9, b10⟩ | m
    · intro q hq; unfold MR; rw [hI 2 q 0 (by decide) a0, hI 2 q 1 (by decide) a1, hI 2 q 2 (by decide) a2, hI 2 q 3 (by decide) a3, hI 2 q 4 (by decide) a4, hI 2 q 5 (by decide) a5, hJ 6 q b6, hJ 7 q b7, hJ 8 q b8, hJ 9 q b9, hJ 10 q b10]; exact S.A.m hq
    · exact m
  · rcases e with ⟨a, a2⟩ | e
    · intro q hq; rw [hI 2 q 7 (by decide) a, hJ 12 q a2]; exact S.A.e q hq
    · exact e
  · rcases f with ⟨a, a2, a3⟩ | f
    · exact ⟨fun q h1 h2 => by rw [hJ 6 q a]; exact S.A.f.1 q h1 h2, fun q h1 h2 => by rw [hJ 14 q a2, hJ 20 q a3]; exact S.A.f.2 q h1 h2⟩
    · exact f
  · rcases h with ⟨a0, a2, a4, a5, a6, a7, a8, a9, b14, b15, b16, b17, b18, b19, b20⟩ | h
    · intro q hq; unfold HR mm mh; rw [hP 3 (by decide), hI 3 q 0 (by decide) a0, hI 3 q 2 (by decide) a2, hI 3 q 4 (by decide) a4, hI 3 q 5 (by decide) a5, hI 3 q 6 (by decide) a6, hI 3 q 7 (by decide) a7, hI 3 q 8 (by decide) a8, hI 3 q 9 (by decide) a9, hJ 14 q b14, hJ 15 q b15, hJ 16 q b16, hJ 17 q b17, hJ 18 q b18, hJ 19 q b19, hJ 20 q b20]; exact S.A.h hq
    · exact h
  · rcases hn with ⟨a, a2, a3⟩ | hn
    · intro q hq; unfold HN mfr mh; rw [hJ 14 q a, hJ 18 q a2, hJ 19 q a3]; exact S.A.hn hq
    · exact hn
  · rcases nc with ⟨b7, b8, b9, b14, b15, b16, b17, b18, b19⟩ | nc
    · have h7 := fun c => hJ 7 c b7
      have h8 := fun c => hJ 8 c b8
      have h9 := fun c => hJ 9 c b9
      have h14 := fun c => hJ 14 c b14
      have h15 := fun c => hJ 15 c b15
      have h16 := fun c => hJ 16 c b16
      have h17 := fun c => hJ 17 c b17
      have h18 := fun c => hJ 18 c b18
      have h19 := fun c => hJ 19 c b19
      simpa only [NC, sm2, mm, h7, h8, h9, h14, h15, h16, h17, h18, h19] using S.A.nc
    · exact nc
  · rcases c with ⟨a, b17, b19, b21⟩ | c
    · exact S.C.of (fun j c => hI 11 j c (by decide) (a c)) (fun c => hJ 19 c b19) (fun c => hJ 17 c b17) (fun c => hJ 21 c b21)
    · exact c
  · rcases b with ⟨a, a2⟩ | b
    · intro q hq; rw [hI 2 q 6 (by decide) a, hJ 11 q a2]; exact S.B q hq
    · exact b
  · rcases d with ⟨a, a2, a3, b22, b23⟩ | d
    · exact S.D.of (funext fun j => funext fun c => hI 8 j c (by decide) (a c)) (funext fun j => funext fun c => hI 10 j c (by decide) (a2 c)) a3 (fun c => hJ 22 c b22) (fun c => hJ 23 c b23)
    · exact d
/-- a call of the class beside the reference's -/
def OpR (z z' : wZ) (nw nw' : Nat) (I I' : wI) (P P' : wP) (ck cr : Int32) (mo : wI × Int32) : Prop := mo.1 12 0 0 = ck ∧ (ck = 0 → cr = mo.2 ∧ Sim z' nw' I' P' mo.1) ∧ (¬ ck = 0 → Sim z nw I P mo.1)
theorem OpR.mk (S : Sim z nw I P J) {ck mk cr r : Int32} {A : wI} (e : ck = mk) (hA : mk = 0 → A 12 0 0 = 0) (hg : mk = 0 → cr = r ∧ Sim z' nw' I' P' A) : OpR z z' nw nw' I I' P P' ck cr (if mk = 0 then (A, r) else (th J mk, 0)) := by
  subst e
  by_cases h : ck = 0
  · rw [if_pos h]
    exact ⟨(hA h).trans h.symm, fun _ => hg h, fun h2 => absurd h h2⟩
  · rw [if_neg h]
    exact ⟨thv J ck, fun h2 => absurd h2 h, fun _ => S.thr ck⟩
theorem inR_pos {x lo hi : Int32} : inR x lo hi = true ↔ ¬ (x < lo ∨ hi < x) := by
  rw [← inR_neg]; cases inR x lo hi <;> simp
theorem s_interpreter (S : Sim z nw I P J) {x y w : Int32} : OpR z z nw nw I (cO0 I x y w) P P (cK0 x y w) (I 1 x.toNatClampNeg 1) (mO0 J x y w) := by
  have e : cK0 x y w = mK0 x y w := by
    unfold cK0 mK0
    rw [oM4]
    cases inR x 0 3
    · simp
    · simp only [Bool.not_true, Bool.false_eq_true, if_false, inR_pos, if_true]
      by_cases a : y < 0 ∨ 15 < y <;> by_cases b : w < 1 ∨ 99 < w <;> simp only [a, b, or_assoc, if_true, if_false, not_true, not_false_eq_true, and_true, and_false, true_and, false_and] <;> grind
  refine OpR.mk S e (fun _ => by simp [upI_at, th]) (fun h => ?_)
  have hx : inR x 0 3 = true := by
    unfold mK0 at h
    split at h
    · assumption
    · exact absurd h (by decide)
  obtain ⟨i, hi, rfl⟩ := inR_of (n := 3) (by decide) hx
  have hc : (nI i).toNatClampNeg = i := nI_clamp (by omega)
  unfold cO0
  rw [hc]
  have hSI := S.A.i
  refine ⟨?_, S.of (fun k _ => k = 1) (fun f => f = 2 ∨ f = 3) (fun k j c _ h => by rw [upI_kind h, upI_kind h]) (fun f c h => by simp [upI_at, th]; rw [if_neg (by omega), if_neg (by omega)]) (fun _ _ => rfl) (XI.upI (S.X.upI _ (by omega) (by omega) (by omega)) _ (by omega) (by omega) (by omega)) ((S.thr 0).M.up _ (by omega) |>.up _ (by omega)) (Or.inl ⟨by simp, by simp [upI_at, th]⟩) (Or.inr fun q hq => ?_) (Or.inl (by simp)) (Or.inl (by simp)) (Or.inl (by simp)) (Or.inl (by simp)) (Or.inl (by simp)) (Or.inl (by simp)) (Or.inl (by simp)) (Or.inl (by simp)) (Or.inl (by simp)) (Or.inl (by simp))⟩
  · rw [th_13]; exact (hSI i (by omega)).2
  · have := hSI q hq
    simp only [upI_at, th]
    by_cases h : q = i
    · subst h; simp
    · simp [h, this]
end WSim1
