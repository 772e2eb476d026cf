section WSim4
variable {z z' : wZ} {nw nw' : Nat} {I I' : wI} {P P' : wP} {J J' : wI}
theorem py_take {i i0 t t' : Nat} {b : Int32} (ht : t < 2 ^ 31) (ht' : t' < 2 ^ 31) : py I (tkP I P i0 (nI t) b) i (nI t') b = if i = i0 ∧ t' = t then none else py I P i (nI t') b := by
  unfold tkP
  rcases hp : py I P i0 (nI t) b with _ | q
  · by_cases h : i = i0 ∧ t' = t
    · obtain ⟨rfl, rfl⟩ := h
      rw [if_pos ⟨rfl, rfl⟩]
      exact hp
    · rw [if_neg h]
  · obtain ⟨c1, c2, c3⟩ := py_some hp
    rw [rg_nI ht] at c2
    show py I (upP P 9 i0 (rg (nI t)) none) i (nI t') b = _
    rw [rg_nI ht]
    by_cases h : i = i0 ∧ t' % 16 = t % 16
    · obtain ⟨rfl, h2⟩ := h
      have e1 : py I (upP P 9 i (t % 16) none) i (nI t') b = none := by
        have hz : upP P 9 i (t % 16) none 9 i (t % 16) = none := by rw [upP_at]; simp
        unfold py
        rw [rg_nI ht', h2, hz]
        split <;> rfl
      rw [e1]
      by_cases e : t' = t
      · rw [if_pos ⟨rfl, e⟩]
      · rw [if_neg (fun q => e q.2)]
        unfold py
        rw [rg_nI ht', h2, c2, if_neg (fun q => e ((nI_eq ht' ht).mp q.2.symm))]
    · have e1 : py I (upP P 9 i0 (t % 16) none) i (nI t') b = py I P i (nI t') b := by
        have hz : upP P 9 i0 (t % 16) none 9 i (t' % 16) = P 9 i (t' % 16) := by rw [upP_at]; simp [h]
        unfold py
        rw [rg_nI ht', hz]
      rw [e1, if_neg (fun q => h ⟨q.1, by rw [q.2]⟩)]
theorem PR.take {i i0 t : Nat} (R : PR I P J nw i) (hi : i < 4) (hi0 : i0 < 4) (ht : t ≤ 1003) (h8 : I' 8 = I 8) (h10 : I' 10 = I 10) (j22 : ∀ c, J' 13 22 c = if c = 1004 * i0 + t then 0 else J 13 22 c) (j23 : ∀ c, J' 13 23 c = if c = 1004 * i0 + t then 0 else J 13 23 c) : PR I' (tkP I P i0 (nI t) (nI nw)) J' nw i := by
  obtain ⟨R1, R2⟩ := R
  refine ⟨fun t' h1 h2 => ?_, fun p q hp hq => ?_⟩
  · obtain ⟨A, B⟩ := R1 t' h1 h2
    have e0 : py I' (tkP I P i0 (nI t) (nI nw)) i (nI t') (nI nw) = py I (tkP I P i0 (nI t) (nI nw)) i (nI t') (nI nw) := py_congr h8 rfl
    rw [e0, py_take (by omega) (by omega), j22, j23, h10]
    by_cases h : i = i0 ∧ t' = t
    · obtain ⟨rfl, rfl⟩ := h
      have e1 : (if i = i ∧ t' = t' then (none : Option Nat) else py I P i (nI t') (nI nw)) = none := by simp
      rw [e1, if_pos rfl]
      exact ⟨rfl, fun q hq => by cases hq⟩
    · have hne : ¬ 1004 * i + t' = 1004 * i0 + t := fun q => h (by omega)
      rw [if_neg h, if_neg hne, if_neg hne]
      exact ⟨A, B⟩
  · rw [h8]
    refine R2 p q hp ?_
    unfold tkP at hq
    rcases hpy : py I P i0 (nI t) (nI nw) with _ | w
    · rw [hpy] at hq; exact hq
    · rw [hpy] at hq
      have hq : upP P 9 i0 (rg (nI t)) none 9 i p = some q := hq
      rw [upP_at] at hq
      by_cases e : 9 = 9 ∧ i = i0 ∧ p = rg (nI t)
      · rw [if_pos e] at hq; cases hq
      · rw [if_neg e] at hq; exact hq
/-- a hearing on its way to its hours, k of them done -/
def PI (z : wZ) (nw : Nat) (I : wI) (P : wP) (J : wI) (h m k : Nat) : Prop := XI z I P ∧ MI z.1 z.2 J ∧ SA z nw I P J ∧ (∀ h', h' < z.2 → h' ≠ h → HC I J h') ∧ (∀ h' k', z.2 ≤ h' → h' < 24 → k' < 4 → J 13 21 (4 * h' + k') = 0) ∧ (∀ k', k' < k → I 11 h k' = J 13 21 (4 * h + k')) ∧ (∀ k', mh J h ≤ k' → k' < 4 → I 11 h k' = 0 ∧ J 13 21 (4 * h + k') = 0) ∧ (∀ m', m' < z.1 → I 2 m' 6 = if m' = m then J 13 11 m' + acL (I 11 h) k else J 13 11 m') ∧ SP nw I P J
theorem PI.bal {h m k q : Nat} {a b : Int32} (p : PI z nw I P J h m k) (hq : q < z.1) (hqm : q ≠ m) (e : a = b) : PI z nw (upI I 2 q 6 (I 2 q 6 + a)) P (upI J 13 11 q (J 13 11 q + b)) h m k := by
  obtain ⟨X, M, A, c1, c2, c3, c4, b1, d⟩ := p
  refine ⟨XI.upI X _ (by omega) (by omega) (by omega), M.up _ (by omega), A.of (fun k j c _ _ _ _ h => by rw [upI_at, if_neg (by omega)]) (fun _ _ => rfl) (by rw [upI_at, if_neg (by omega)]) (fun f c h _ _ _ => by rw [upI_at, if_neg (by omega)]), ?_, ?_, ?_, ?_, ?_, d.of (upI_kind (by decide)) (upI_kind (by decide)) rfl (fun c => by rw [upI_at, if_neg (by omega)]) (fun c => by rw [upI_at, if_neg (by omega)])⟩
  · intro h' hh hne
    have := c1 h' hh hne
    simpa only [HC, mh, upI_kind (I := I) (a := 2) (b := q) (j := 6) (v := I 2 q 6 + a) (show 11 ≠ 2 by decide), show ∀ f c, f ≠ 11 → upI J 13 11 q (J 13 11 q + b) 13 f c = J 13 f c from fun f c h => by rw [upI_at, if_neg (by omega)], ne_eq, show ¬ (21 = 11) by decide, show ¬ (19 = 11) by decide, show ¬ (17 = 11) by decide, not_false_eq_true] using this
  · intro h' k' h1 h2 h3; rw [upI_at, if_neg (by omega)]; exact c2 h' k' h1 h2 h3
  · intro k' hk; rw [upI_at, if_neg (by omega), upI_at, if_neg (by omega)]; exact c3 k' hk
  · intro k' h1 h2; rw [upI_at, if_neg (by omega), upI_at, if_neg (by omega)]; refine c4 k' ?_ h2; unfold mh at h1 ⊢; rw [upI_at, if_neg (by omega)] at h1; exact h1
  · intro m' hm'
    have := b1 m' hm'
    rw [upI_kind (I := I) (a := 2) (b := q) (j := 6) (v := I 2 q 6 + a) (show 11 ≠ 2 by decide), upI_at, upI_at]
    by_cases h : m' = q
    · subst h
      have h2 := b1 m' hm'
      rw [if_neg hqm] at h2
      simp [hqm, h2, e]
    · simp [h, this]
theorem XI.tkp {i : Nat} {x y : Int32} (X : XI z I P) : XI z I (tkP I P i x y) := by
  unfold tkP
  split
  · exact X
  · exact X.upP9 (fun q e => by cases e)
theorem PI.tail {h m k i t : Nat} {c : Int32} (p : PI z nw I P J h m k) (hh : h < z.2) (hi : i < 4) (ht : t ≤ 1003) (hk : k < 4) (hk2 : k < mh J h) : PI z nw (upI I 11 h k c) (tkP I P i (nI t) (nI nw)) (upI (upI (upI (upI J 13 22 (1004 * i + t) 0) 13 23 (1004 * i + t) 0) 13 21 (4 * h + k) c) 13 11 m (J 13 11 m - c)) h m (k + 1) := by
  obtain ⟨X, M, A, c1, c2, c3, c4, b1, d⟩ := p
  have hJ : ∀ f x, f ≠ 11 → f ≠ 21 → f ≠ 22 → f ≠ 23 → upI (upI (upI (upI J 13 22 (1004 * i + t) 0) 13 23 (1004 * i + t) 0) 13 21 (4 * h + k) c) 13 11 m (J 13 11 m - c) 13 f x = J 13 f x := fun f x h1 h2 h3 h4 => by
    rw [upI_at, if_neg (by omega), upI_at, if_neg (by omega), upI_at, if_neg (by omega), upI_at, if_neg (by omega)]
  have h21 : ∀ x, upI (upI (upI (upI J 13 22 (1004 * i + t) 0) 13 23 (1004 * i + t) 0) 13 21 (4 * h + k) c) 13 11 m (J 13 11 m - c) 13 21 x = if x = 4 * h + k then c else J 13 21 x := fun x => by
    simp [upI_at]
  have hmh : mh (upI (upI (upI (upI J 13 22 (1004 * i + t) 0) 13 23 (1004 * i + t) 0) 13 21 (4 * h + k) c) 13 11 m (J 13 11 m - c)) h = mh J h := by
    unfold mh; rw [hJ _ _ (by decide) (by decide) (by decide) (by decide)]
  have h11 : ∀ j x, upI I 11 h k c 11 j x = if j = h ∧ x = k then c else I 11 j x := fun j x => by
    simp [upI_at]
  refine ⟨XI.upI X.tkp _ (by omega) (by omega) (by omega), ?_, A.of (fun k j c _ _ _ h1 h => by rw [upI_at, if_neg (by omega)]) (fun k hk => funext fun j => tkP_off hk) (by simp [upI_at]) hJ, ?_, ?_, ?_, ?_, ?_, ?_⟩
  · exact (((M.up22 (p := 0) (by omega) nI_0.symm).up _ (by omega)).up _ (by omega)).up _ (by omega)
  · intro h' hh' hne
    obtain ⟨e1, e2⟩ := c1 h' hh' hne
    refine ⟨fun k' hk' => ?_, fun k' hk' hz => ?_⟩
    · rw [h21, h11, if_neg (by omega), if_neg (by omega)]; exact e1 k' hk'
    · rw [h21, if_neg (by omega)]
      refine e2 k' hk' ?_
      unfold mh at hz ⊢
      rw [hJ _ _ (by decide) (by decide) (by decide) (by decide), hJ _ _ (by decide) (by decide) (by decide) (by decide)] at hz
      exact hz
  · intro h' k' h1 h2 h3
    rw [h21]
    rw [if_neg (by omega)]; exact c2 h' k' h1 h2 h3
  · intro k' hk'
    rw [h21, h11]
    by_cases e : k' = k
    · subst e; simp
    · rw [if_neg (by omega), if_neg (by omega)]; exact c3 k' (by omega)
  · intro k' h1 h2
    rw [hmh] at h1
    rw [h21, h11, if_neg (by omega), if_neg (by omega)]
    exact c4 k' h1 h2
  · intro m' hm'
    have hb := b1 m' hm'
    have hac : acL (upI I 11 h k c 11 h) (k + 1) = acL (I 11 h) k + c := by
      show acL (upI I 11 h k c 11 h) k + upI I 11 h k c 11 h k = _
      rw [h11, if_pos ⟨rfl, rfl⟩, acL_eq (d := I 11 h) (fun k' hk' => by rw [h11, if_neg (by omega)])]
    rw [hac, show upI I 11 h k c 2 m' 6 = I 2 m' 6 from by rw [upI_at, if_neg (by omega)], hb]
    by_cases e : m' = m
    · subst e
      rw [if_pos rfl, if_pos rfl, upI_at, if_pos ⟨rfl, rfl, rfl⟩]
      grind
    · rw [if_neg e, if_neg e]; simp [upI_at, e]
  · intro i' hi'
    refine (d i' hi').take hi' hi ht (upI_kind (by decide)) (upI_kind (by decide)) (fun x => ?_) (fun x => ?_)
    · simp [upI_at]
    · simp [upI_at]
end WSim4
