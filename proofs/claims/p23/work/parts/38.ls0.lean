section WLs0
theorem fm_congr {α : Type} {f f' : Nat → Option α} : ∀ {n : Nat}, (∀ j, j < n → f' j = f j) → (List.range n).filterMap f' = (List.range n).filterMap f
  | 0, _ => rfl
  | n + 1, h => by
    rw [List.range_succ, List.filterMap_append, List.filterMap_append, fm_congr (fun j hj => h j (by omega))]
    show _ ++ List.filterMap f' [n] = _ ++ List.filterMap f [n]
    rw [List.filterMap_cons, List.filterMap_cons, h n (by omega)]
    rfl
/-- one more at a free place -/
theorem fm_put {α : Type} {f f' : Nat → Option α} {k : Nat} {e : α} (h0 : f k = none) (h1 : f' k = some e) (ho : ∀ j, j ≠ k → f' j = f j) : ∀ {n : Nat}, k < n → ((List.range n).filterMap f').Perm (e :: (List.range n).filterMap f)
  | 0, h => absurd h (Nat.not_lt_zero _)
  | n + 1, h => by
    rw [List.range_succ, List.filterMap_append, List.filterMap_append]
    by_cases hk : k = n
    · subst hk
      rw [fm_congr (fun j hj => ho j (by omega))]
      rw [List.filterMap_cons_some h1, List.filterMap_cons_none h0, List.filterMap_nil, List.filterMap_nil, List.append_nil]
      exact List.perm_append_singleton _ _
    · have ih := fm_put h0 h1 ho (n := n) (by omega)
      have e2 : List.filterMap f' [n] = List.filterMap f [n] := by rw [List.filterMap_cons, List.filterMap_cons, ho n (fun q => hk q.symm)]; rfl
      rw [e2]
      exact ih.append_right _
theorem fm_full {α : Type} {f : Nat → Option α} : ∀ {n : Nat}, (∀ k, k < n → f k ≠ none) → ((List.range n).filterMap f).length = n
  | 0, _ => rfl
  | n + 1, h => by
    rw [List.range_succ, List.filterMap_append, List.length_append, fm_full (fun k hk => h k (by omega))]
    rcases hf : f n with _ | x
    · exact absurd hf (h n (by omega))
    · rw [List.filterMap_cons_some hf]; rfl
theorem fm_len {α : Type} {f : Nat → Option α} {k : Nat} (h : f k = none) : ∀ {n : Nat}, k < n → ((List.range n).filterMap f).length < n
  | 0, hk => absurd hk (Nat.not_lt_zero _)
  | n + 1, hk => by
    rw [List.range_succ, List.filterMap_append, List.length_append]
    have hl : ((List.range n).filterMap f).length ≤ n := by
      have := List.length_filterMap_le f (List.range n)
      rwa [List.length_range] at this
    by_cases e : k = n
    · subst e
      rw [List.filterMap_cons_none h, List.filterMap_nil, List.length_nil]
      omega
    · have := fm_len h (n := n) (by omega)
      have h2 : (List.filterMap f [n]).length ≤ 1 := List.length_filterMap_le f [n]
      omega
theorem fm_mem {α : Type} {f : Nat → Option α} {n : Nat} {x : α} : x ∈ (List.range n).filterMap f ↔ ∃ k, k < n ∧ f k = some x := by
  rw [List.mem_filterMap]
  constructor
  · rintro ⟨k, h1, h2⟩; exact ⟨k, List.mem_range.mp h1, h2⟩
  · rintro ⟨k, h1, h2⟩; exact ⟨k, List.mem_range.mpr h1, h2⟩
theorem fm_filter {α : Type} {f f' : Nat → Option α} {p : α → Bool} {n : Nat} (h : ∀ k, k < n → f' k = (f k).filter p) : (List.range n).filterMap f' = ((List.range n).filterMap f).filter p := by
  rw [List.filter_filterMap]
  exact fm_congr h
abbrev wR : Type := Nat → Nat → Int32
def uN (L : wR) (k : Nat) : Nat := (L 3 k).toNatClampNeg
def vN (L : wR) (k : Nat) : Nat := (L 4 k).toNatClampNeg
def amN (J : wI) (q : Nat) : Nat := (J 13 23 q).toNatClampNeg
def chN (J : wI) (x : Nat) : Nat := (J 13 21 x).toNatClampNeg
def prN (J : wI) (i : Nat) : Nat := (J 13 3 i).toNatClampNeg
def rmN (J : wI) (h : Nat) : Nat := (J 13 16 h).toNatClampNeg
def spN (J : wI) (h : Nat) : Nat := (J 13 17 h + 1).toNatClampNeg
def ntN (J : wI) (h : Nat) : Nat := (J 13 20 h).toNatClampNeg
def hsN (J : wI) (h : Nat) : Nat := (J 13 14 h).toNatClampNeg
def stN (J : wI) (m : Nat) : Nat := (J 13 6 m).toNatClampNeg
def lgN (J : wI) (m : Nat) : Nat := (J 13 10 m + 1).toNatClampNeg
/-- the law's paid hours that are to come -/
def lpE (L : wR) (nw k : Nat) : Option (Nat × Nat) := if nw < uN L k / 8 then some (uN L k, vN L k) else none
def lpL (L : wR) (nw : Nat) : List (Nat × Nat) := (List.range 64).filterMap (lpE L nw)
/-- the hour of a place that is to come -/
def hrO (nw p : Nat) : Nat := nw + 1 + (p + 15 * (nw + 1)) % 16
def jpQ (J : wI) (i t : Nat) : Option (Nat × Nat) := if mpy J (1004 * i + t) = 0 then none else some (i + 1 + 8 * t, mpy J (1004 * i + t) - 1 + 16 * amN J (1004 * i + t))
def jpE (J : wI) (nw e : Nat) : Option (Nat × Nat) := jpQ J (e / 16) (hrO nw (e % 16))
def jpL (J : wI) (nw : Nat) : List (Nat × Nat) := (List.range 64).filterMap (jpE J nw)
theorem hrO_lt {nw p : Nat} : nw < hrO nw p ∧ hrO nw p ≤ nw + 16 := by unfold hrO; omega
theorem hrO_at {nw t : Nat} (h : nw < t) (h2 : t ≤ nw + 16) : hrO nw (t % 16) = t := by unfold hrO; omega
theorem hrO_inj {nw p q : Nat} (hp : p < 16) (hq : q < 16) (h : hrO nw p = hrO nw q) : p = q := by unfold hrO at h; omega
theorem hrO_nx {nw p : Nat} (hp : p < 16) (h : hrO nw p ≠ nw + 1) : hrO (nw + 1) p = hrO nw p := by unfold hrO at h ⊢; omega
theorem hrO_n1 {nw p : Nat} (hp : p < 16) (h : hrO nw p = nw + 1) : hrO (nw + 1) p = nw + 17 := by unfold hrO at h ⊢; omega
/-- what the law's list of paid hours is beside the reference's -/
def YU (nw : Nat) (J : wI) (L : wR) : Prop := (∀ k, k < 64 → L 3 k = nI (uN L k) ∧ uN L k < 65536 ∧ L 4 k = nI (vN L k) ∧ vN L k < 65536) ∧ (lpL L nw).Perm (jpL J nw)
/-- none is further ahead than ten hours -/
def YV (nw : Nat) (J : wI) : Prop := ∀ i t, i < 4 → nw + 10 < t → t ≤ 1003 → mpy J (1004 * i + t) = 0
def YAm (J : wI) : Prop := ∀ q, q < 4016 → J 13 23 q = nI (amN J q) ∧ amN J q ≤ 99
/-- no hour of a planned hearing is paid time -/
def YP (ex : Nat → Prop) (N nw : Nat) (J : wI) : Prop := ∀ h k, h < N → ¬ ex h → J 13 14 h = 0 → k < mh J h → ¬ J 13 17 h = -1 → nw < mfr J h + k → mpy J (1004 * msp J h + (mfr J h + k)) = 0
def YM (M : Nat) (J : wI) (L : wR) : Prop := M ≤ 8 ∧ (∀ k, k < M → L 0 (8 * k) = J 13 6 k ∧ L 0 (8 * k + 1) = J 13 7 k ∧ L 0 (8 * k + 2) = J 13 8 k ∧ L 0 (8 * k + 3) = J 13 9 k ∧ L 0 (8 * k + 4) = J 13 10 k + 1 ∧ L 0 (8 * k + 5) = J 13 11 k ∧ L 0 (8 * k + 6) = J 13 12 k ∧ J 13 6 k = nI (stN J k) ∧ stN J k ≤ 5 ∧ J 13 10 k + 1 = nI (lgN J k) ∧ lgN J k ≤ 4) ∧ (∀ k, M ≤ k → k < 8 → L 0 (8 * k) = 0) ∧ ∀ k, k < M → ∃ p, p < 6 ∧ J 13 9 k = nI p
def YA (N : Nat) (J : wI) (L : wR) : Prop := N ≤ 16 ∧ ∀ h, h < N → L 1 (4 * h) = J 13 14 h ∧ L 1 (4 * h + 1) = nI (mm J h + 16 * rmN J h + 64 * spN J h) ∧ L 1 (4 * h + 2) = J 13 18 h ∧ L 1 (4 * h + 3) = nI (mh J h + 16 * ntN J h) ∧ J 13 16 h = nI (rmN J h) ∧ rmN J h < 4 ∧ J 13 17 h + 1 = nI (spN J h) ∧ spN J h ≤ 4 ∧ J 13 20 h = nI (ntN J h) ∧ ntN J h ≤ 3 ∧ J 13 14 h = nI (hsN J h) ∧ hsN J h ≤ 3
def YC (J : wI) (L : wR) : Prop := ∀ x, x < 64 → L 2 x = J 13 21 x ∧ J 13 21 x = nI (chN J x) ∧ chN J x ≤ 99
def YW (J : wI) (L : wR) : Prop := (∀ i, i < 4 → L 5 i = J 13 2 i ∧ L 5 (4 + i) = J 13 3 i ∧ J 13 3 i = nI (prN J i) ∧ prN J i ≤ 99) ∧ ∀ p, p < 6 → L 5 (8 + p) = J 13 4 p ∧ (J 13 4 p = 0 ∨ J 13 4 p = 1)
def YQ (z : wZ) (nw : Nat) (J : wI) (L : wR) : Prop := L 6 0 = nI z.1 ∧ L 6 1 = nI z.2 ∧ L 6 2 = nI nw ∧ J 12 0 1 = nI nw ∧ nw ≤ 930
/-- the law's rows beside the reference's state; of the hearings 'ex' it isn't said that their hours aren't paid time -/
def YS (ex : Nat → Prop) (z : wZ) (nw : Nat) (J : wI) (L : wR) : Prop := YM z.1 J L ∧ YA z.2 J L ∧ YC J L ∧ YW J L ∧ YQ z nw J L ∧ YU nw J L ∧ YV nw J ∧ YAm J ∧ YP ex z.2 nw J
variable {ex ex' : Nat → Prop} {z : wZ} {nw : Nat} {J J' : wI} {L L' : wR}
theorem YS.m (S : YS ex z nw J L) : YM z.1 J L := S.1
theorem YS.a (S : YS ex z nw J L) : YA z.2 J L := S.2.1
theorem YS.c (S : YS ex z nw J L) : YC J L := S.2.2.1
theorem YS.w (S : YS ex z nw J L) : YW J L := S.2.2.2.1
theorem YS.q (S : YS ex z nw J L) : YQ z nw J L := S.2.2.2.2.1
theorem YS.u (S : YS ex z nw J L) : YU nw J L := S.2.2.2.2.2.1
theorem YS.v (S : YS ex z nw J L) : YV nw J := S.2.2.2.2.2.2.1
theorem YS.am (S : YS ex z nw J L) : YAm J := S.2.2.2.2.2.2.2.1
theorem YS.p (S : YS ex z nw J L) : YP ex z.2 nw J := S.2.2.2.2.2.2.2.2
theorem YS.wk (S : YS ex z nw J L) (h : ∀ j, j < z.2 → ex j → ex' j) : YS ex' z nw J L := ⟨S.m, S.a, S.c, S.w, S.q, S.u, S.v, S.am, fun j k hj hn => S.p j k hj (fun q => hn (h j hj q))⟩
/-- what a place of the law's list shows -/
theorem YU.hit (U : YU nw J L) (V : YV nw J) (hn : nw ≤ 930) {i t k : Nat} (hi : i < 4) (ht : nw < t) (hk : k < 64) (hu : uN L k = i + 1 + 8 * t) (h3 : t ≤ 1003) : t ≤ nw + 10 ∧ jpQ J i t = some (uN L k, vN L k) := by
  have h1 : (uN L k, vN L k) ∈ lpL L nw := fm_mem.mpr ⟨k, hk, by unfold lpE; rw [if_pos (by omega)]⟩
  obtain ⟨e, he, h2⟩ := fm_mem.mp (U.2.mem_iff.mp h1)
  have hr := hrO_lt (nw := nw) (p := e % 16)
  unfold jpE at h2
  have h4 := h2
  unfold jpQ at h2
  split at h2
  · cases h2
  · next h5 =>
    have h6 := Option.some.inj h2
    have h7 : e / 16 + 1 + 8 * hrO nw (e % 16) = uN L k := congrArg Prod.fst h6
    have h8 : e / 16 = i ∧ hrO nw (e % 16) = t := by omega
    rw [h8.1, h8.2] at h4 h5
    refine ⟨?_, h4⟩
    refine Classical.byContradiction fun q => h5 (V i t hi (by omega) h3)
theorem YU.miss (U : YU nw J L) (V : YV nw J) {i t : Nat} (hi : i < 4) (ht : nw < t) (h3 : t ≤ 1003) (h : ∀ k, k < 64 → ¬ uN L k = i + 1 + 8 * t) : mpy J (1004 * i + t) = 0 := by
  refine Classical.byContradiction fun q => ?_
  have ht2 : t ≤ nw + 10 := Classical.byContradiction fun q2 => q (V i t hi (by omega) h3)
  have h1 : (i + 1 + 8 * t, mpy J (1004 * i + t) - 1 + 16 * amN J (1004 * i + t)) ∈ jpL J nw := fm_mem.mpr ⟨16 * i + t % 16, by omega, by
    unfold jpE jpQ
    rw [show (16 * i + t % 16) / 16 = i by omega, show (16 * i + t % 16) % 16 = t % 16 by omega, hrO_at ht (by omega), if_neg q]⟩
  obtain ⟨k, hk, h2⟩ := fm_mem.mp (U.2.mem_iff.mpr h1)
  unfold lpE at h2
  split at h2
  · exact h k hk (congrArg Prod.fst (Option.some.inj h2))
  · cases h2
theorem upL_N {L : wR} {r k : Nat} {v : Int32} (j c : Nat) : (fun a => if a = r then upd (L a) k v else L a : wR) j c = if j = r ∧ c = k then v else L j c := by
  dsimp only
  by_cases h : j = r
  · rw [if_pos h]; unfold upd; by_cases h2 : c = k <;> simp [h, h2]
  · simp [h]
theorem mpy_up {q q' : Nat} {v : Int32} : mpy (upI J 13 22 q v) q' = if q' = q then v.toNatClampNeg else mpy J q' := by
  unfold mpy
  rw [upI_at]
  by_cases h : q' = q
  · simp [h]
  · simp [h]
/-- a free place of the law's list is there where the reference's place is free -/
theorem YU.free (U : YU nw J L) {i t : Nat} (hi : i < 4) (ht : nw < t) (ht2 : t ≤ nw + 10) (h0 : mpy J (1004 * i + t) = 0) (h : ∀ k, k < 63 → nw < uN L k / 8) : ¬ nw < uN L 63 / 8 := by
  intro h63
  have e1 : (lpL L nw).length = 64 := fm_full (fun k hk => by
    unfold lpE
    by_cases e : k = 63
    · subst e; rw [if_pos h63]; simp
    · rw [if_pos (h k (by omega))]; simp)
  have e2 : (jpL J nw).length < 64 := fm_len (k := 16 * i + t % 16) (by
    unfold jpE jpQ
    rw [show (16 * i + t % 16) / 16 = i by omega, show (16 * i + t % 16) % 16 = t % 16 by omega, hrO_at ht (by omega), if_pos h0]) (by omega)
  have e3 := U.2.length_eq
  omega
theorem jpE_off {J' : wI} {i t : Nat} (hi : i < 4) (ht : nw < t) (ht2 : t ≤ nw + 10) (hn : nw ≤ 930) (h22 : ∀ q, q ≠ 1004 * i + t → mpy J' q = mpy J q) (h23 : ∀ q, q ≠ 1004 * i + t → amN J' q = amN J q) {e : Nat} (he : e ≠ 16 * i + t % 16) (he2 : e < 64) : jpE J' nw e = jpE J nw e := by
  have hr := hrO_lt (nw := nw) (p := e % 16)
  have hne : 1004 * (e / 16) + hrO nw (e % 16) ≠ 1004 * i + t := fun q => by
    have h1 : e / 16 = i ∧ hrO nw (e % 16) = t := by omega
    have h2 : e % 16 = t % 16 := hrO_inj (by omega) (by omega) (h1.2.trans (hrO_at ht (by omega)).symm)
    omega
  unfold jpE jpQ
  rw [h22 _ hne, h23 _ hne]
theorem fm_offP {f f' : Nat → Option (Nat × Nat)} {k n : Nat} (ho : ∀ j, j ≠ k → j < n → f' j = f j) : ∃ g : Nat → Option (Nat × Nat), g k = f' k ∧ (∀ j, j ≠ k → g j = f j) ∧ (List.range n).filterMap f' = (List.range n).filterMap g :=
  ⟨fun j => if j = k then f' k else f j, if_pos rfl, fun j h => if_neg h, fm_congr (fun j hj => by
    by_cases e : j = k
    · subst e; rw [if_pos rfl]
    · rw [if_neg e]; exact ho j e hj)⟩
/-- an hour becomes paid time -/
theorem YU.keep (U : YU nw J L) (hn : nw ≤ 930) {i t k m a : Nat} (hi : i < 4) (ht : nw < t) (ht2 : t ≤ nw + 10) (h0 : mpy J (1004 * i + t) = 0) (hk : k < 64) (hf : ¬ nw < uN L k / 8) (hm : m < 12) (ha : a ≤ 99)
    (hJ22 : ∀ q, mpy J' q = if q = 1004 * i + t then m + 1 else mpy J q) (hJ23 : ∀ q, amN J' q = if q = 1004 * i + t then a else amN J q) (h3 : ∀ c, L' 3 c = if c = k then nI (i + 1 + 8 * t) else L 3 c) (h4 : ∀ c, L' 4 c = if c = k then nI (m + 16 * a) else L 4 c) : YU nw J' L' := by
  have u1 : ∀ c, uN L' c = if c = k then i + 1 + 8 * t else uN L c := fun c => by
    unfold uN; rw [h3]; by_cases e : c = k
    · rw [if_pos e, if_pos e, nI_clamp (by omega)]
    · rw [if_neg e, if_neg e]
  have v1 : ∀ c, vN L' c = if c = k then m + 16 * a else vN L c := fun c => by
    unfold vN; rw [h4]; by_cases e : c = k
    · rw [if_pos e, if_pos e, nI_clamp (by omega)]
    · rw [if_neg e, if_neg e]
  refine ⟨fun c hc => ?_, ?_⟩
  · rw [u1, v1, h3, h4]
    by_cases e : c = k
    · simp only [e, if_true]; exact ⟨trivial, by omega, trivial, by omega⟩
    · simp only [e, if_false]; exact U.1 c hc
  · have p1 : (lpL L' nw).Perm ((i + 1 + 8 * t, m + 16 * a) :: lpL L nw) := fm_put (k := k) (by unfold lpE; rw [if_neg hf]) (by unfold lpE; rw [u1, v1, if_pos rfl, if_pos rfl, if_pos (by omega)]) (fun j hj => by unfold lpE; rw [u1, v1, if_neg hj, if_neg hj]) hk
    obtain ⟨g, g1, g2, g3⟩ := fm_offP (f := jpE J nw) (f' := jpE J' nw) (k := 16 * i + t % 16) (n := 64) (fun j hj hj2 => jpE_off hi ht ht2 hn (fun q hq => by rw [hJ22, if_neg hq]) (fun q hq => by rw [hJ23, if_neg hq]) hj hj2)
    have p2 : (jpL J' nw).Perm ((i + 1 + 8 * t, m + 16 * a) :: jpL J nw) := by
      unfold jpL
      rw [g3]
      refine fm_put (k := 16 * i + t % 16) ?_ ?_ g2 (by omega)
      · unfold jpE jpQ
        rw [show (16 * i + t % 16) / 16 = i by omega, show (16 * i + t % 16) % 16 = t % 16 by omega, hrO_at ht (by omega), if_pos h0]
      · rw [g1]
        unfold jpE jpQ
        rw [show (16 * i + t % 16) / 16 = i by omega, show (16 * i + t % 16) % 16 = t % 16 by omega, hrO_at ht (by omega), hJ22, hJ23, if_pos rfl, if_pos rfl, if_neg (by omega), Nat.add_sub_cancel]
    exact p1.trans ((U.2.cons _).trans p2.symm)
/-- a paid hour is taken -/
theorem YU.take (U : YU nw J L) (V : YV nw J) (hn : nw ≤ 930) {i t k : Nat} (hi : i < 4) (ht : nw < t) (ht3 : t ≤ 1003) (hk : k < 64) (hu : uN L k = i + 1 + 8 * t)
    (hJ22 : ∀ q, mpy J' q = if q = 1004 * i + t then 0 else mpy J q) (hJ23 : ∀ q, q ≠ 1004 * i + t → amN J' q = amN J q) (h3 : ∀ c, L' 3 c = if c = k then 0 else L 3 c) (h4 : ∀ c, L' 4 c = L 4 c) : YU nw J' L' := by
  obtain ⟨ht2, hq⟩ := U.hit V hn hi ht hk hu ht3
  have u1 : ∀ c, uN L' c = if c = k then 0 else uN L c := fun c => by
    unfold uN; rw [h3]; by_cases e : c = k
    · rw [if_pos e, if_pos e]; decide
    · rw [if_neg e, if_neg e]
  have v1 : ∀ c, vN L' c = vN L c := fun c => by unfold vN; rw [h4]
  refine ⟨fun c hc => ?_, ?_⟩
  · rw [u1, v1, h3, h4]
    by_cases e : c = k
    · simp only [e, if_true]
      have := U.1 k hk
      exact ⟨nI_0.symm, by omega, this.2.2⟩
    · simp only [e, if_false]; exact U.1 c hc
  · have p1 : (lpL L nw).Perm ((uN L k, vN L k) :: lpL L' nw) := fm_put (k := k) (by unfold lpE; rw [u1, if_pos rfl, if_neg (by omega)]) (by unfold lpE; rw [if_pos (by omega)]) (fun j hj => by unfold lpE; rw [u1, v1, if_neg hj]) hk
    obtain ⟨g, g1, g2, g3⟩ := fm_offP (f := jpE J' nw) (f' := jpE J nw) (k := 16 * i + t % 16) (n := 64) (fun j hj hj2 => (jpE_off hi ht ht2 hn (fun q hq => by rw [hJ22, if_neg hq]) hJ23 hj hj2).symm)
    have p2 : (jpL J nw).Perm ((uN L k, vN L k) :: jpL J' nw) := by
      unfold jpL
      rw [g3]
      refine fm_put (k := 16 * i + t % 16) ?_ ?_ g2 (by omega)
      · unfold jpE jpQ
        rw [show (16 * i + t % 16) / 16 = i by omega, show (16 * i + t % 16) % 16 = t % 16 by omega, hrO_at ht (by omega), hJ22, if_pos rfl, if_pos rfl]
      · rw [g1]
        unfold jpE
        rw [show (16 * i + t % 16) / 16 = i by omega, show (16 * i + t % 16) % 16 = t % 16 by omega, hrO_at ht (by omega)]
        exact hq
    exact ((p1.symm.trans U.2).trans p2).cons_inv
/-- the same list, where neither row has changed -/
theorem YU.same (U : YU nw J L) (hJ22 : ∀ q, q < 4016 → mpy J' q = mpy J q) (hJ23 : ∀ q, q < 4016 → amN J' q = amN J q) (hn : nw ≤ 930) (h3 : L' 3 = L 3) (h4 : L' 4 = L 4) : YU nw J' L' := by
  have u1 : ∀ c, uN L' c = uN L c := fun c => by unfold uN; rw [h3]
  have v1 : ∀ c, vN L' c = vN L c := fun c => by unfold vN; rw [h4]
  refine ⟨fun c hc => by rw [u1, v1, h3, h4]; exact U.1 c hc, ?_⟩
  have e1 : lpL L' nw = lpL L nw := fm_congr (fun j _ => by unfold lpE; rw [u1, v1])
  have e2 : jpL J' nw = jpL J nw := fm_congr (fun e he => by
    have hr := hrO_lt (nw := nw) (p := e % 16)
    unfold jpE jpQ
    rw [hJ22 _ (by omega), hJ23 _ (by omega)])
  rw [e1, e2]
  exact U.2
theorem YU.next (U : YU nw J L) (V : YV nw J) (hn : nw ≤ 930) : YU (nw + 1) J L := by
  refine ⟨U.1, ?_⟩
  have e1 : lpL L (nw + 1) = (lpL L nw).filter (fun x => decide (nw + 1 < x.1 / 8)) := fm_filter (fun k hk => by
    unfold lpE
    by_cases h : nw < uN L k / 8
    · rw [if_pos h]
      by_cases h2 : nw + 1 < uN L k / 8
      · rw [if_pos h2]; simp [Option.filter, h2]
      · rw [if_neg h2]; simp [Option.filter, h2]
    · rw [if_neg h, if_neg (by omega)]; rfl)
  have e2 : jpL J (nw + 1) = (jpL J nw).filter (fun x => decide (nw + 1 < x.1 / 8)) := fm_filter (fun e he => by
    have hr := hrO_lt (nw := nw) (p := e % 16)
    unfold jpE
    by_cases h : hrO nw (e % 16) = nw + 1
    · rw [hrO_n1 (by omega) h, h]
      have h0 : jpQ J (e / 16) (nw + 17) = none := by unfold jpQ; rw [if_pos (V _ _ (by omega) (by omega) (by omega))]
      rw [h0]
      unfold jpQ
      split
      · rfl
      · have : ¬ (nw + 1 < (e / 16 + 1 + 8 * (nw + 1)) / 8) := by omega
        simp [Option.filter, this]
    · rw [hrO_nx (by omega) h]
      unfold jpQ
      split
      · rfl
      · have : nw + 1 < (e / 16 + 1 + 8 * hrO nw (e % 16)) / 8 := by omega
        simp [Option.filter, this])
  rw [e1, e2]
  exact U.2.filter _
end WLs0
