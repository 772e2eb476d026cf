section WStart
def I00 : wI := fun k i => match k, i with
  | 1, _ => fun c => match c with
    | 1 => 10
    | _ => 0
  | _, _ => fun _ => 0
def J00 : wI := fun k i => match k, i with
  | 13, 3 => upd (upd (upd (upd (fun _ => 0) 0 10) 1 10) 2 10) 3 10
  | _, _ => fun _ => 0
def P00 : wP := fun k _ => match k with
  | 4 => fun j => if j < 4 then some j else none
  | _ => fun _ => none
theorem sim_0 : Sim (0, 0) 0 I00 P00 J00 := by
  refine ⟨⟨by decide, by decide, nI_0.symm, nI_0.symm, fun j h => absurd h (Nat.not_lt_zero _), fun j h => absurd h (Nat.not_lt_zero _), fun j h => ?_, fun j h => absurd h (Nat.not_lt_zero _), fun i p q _ _ h => (by cases h), fun j h => absurd h (Nat.not_lt_zero _), fun j h => absurd h (Nat.not_lt_zero _)⟩, ⟨by decide, by decide, nI_0.symm, nI_0.symm, fun j h => absurd h (Nat.not_lt_zero _), fun j h => absurd h (Nat.not_lt_zero _), fun j h => absurd h (Nat.not_lt_zero _), fun j h => absurd h (Nat.not_lt_zero _), fun j h => absurd h (Nat.not_lt_zero _), fun q _ => ⟨?_, ?_⟩⟩, ⟨⟨nI_0.symm, nI_0.symm, by decide⟩, fun i h => ?_, fun j _ => ⟨rfl, Or.inl rfl⟩, fun j h => absurd h (Nat.not_lt_zero _), fun j h => absurd h (Nat.not_lt_zero _), ⟨fun _ _ _ => rfl, fun _ _ _ => ⟨rfl, rfl⟩⟩, fun j h => absurd h (Nat.not_lt_zero _), fun j h => absurd h (Nat.not_lt_zero _), fun a b h => absurd h (Nat.not_lt_zero _)⟩, ⟨fun j h => absurd h (Nat.not_lt_zero _), fun _ _ _ _ _ => rfl⟩, fun j h => absurd h (Nat.not_lt_zero _), fun i _ => ⟨fun t _ _ => ?_, fun p q _ h => (by cases h)⟩⟩
  · exact if_pos h
  · show (0 : Int32) = nI (0 : Int32).toNatClampNeg
    decide
  · show (0 : Int32).toNatClampNeg ≤ 0
    decide
  · refine ⟨rfl, ?_⟩
    rcases (show i = 0 ∨ i = 1 ∨ i = 2 ∨ i = 3 by omega) with rfl | rfl | rfl | rfl <;> decide
  · have e : py I00 P00 i (nI t) (nI 0) = none := by
      unfold py
      split <;> rfl
    rw [e]
    exact ⟨rfl, fun q h => by cases h⟩
def Z00 : wI := fun _ _ _ => 0
theorem ys_0 : YS (fun _ => False) (0, 0) 0 Z00 (I00 13) := by
  have e : lpL (I00 13) 0 = jpL Z00 0 := by decide +kernel
  refine ⟨⟨by decide, fun j h => absurd h (Nat.not_lt_zero _), fun _ _ _ => rfl, fun j h => absurd h (Nat.not_lt_zero _)⟩, ⟨by decide, fun j h => absurd h (Nat.not_lt_zero _)⟩, fun x _ => ⟨rfl, ?_, ?_⟩, ⟨fun i _ => ⟨rfl, rfl, ?_, ?_⟩, fun p _ => ⟨rfl, Or.inl rfl⟩⟩, ⟨nI_0.symm, nI_0.symm, nI_0.symm, nI_0.symm, by decide⟩, ⟨fun k _ => ⟨?_, ?_, ?_, ?_⟩, by rw [e]⟩, fun i t _ _ _ => ?_, fun q _ => ⟨?_, ?_⟩, fun j k h => absurd h (Nat.not_lt_zero _)⟩
  · show (0 : Int32) = nI (0 : Int32).toNatClampNeg; decide
  · show (0 : Int32).toNatClampNeg ≤ 99; decide
  · show (0 : Int32) = nI (0 : Int32).toNatClampNeg; decide
  · show (0 : Int32).toNatClampNeg ≤ 99; decide
  · show (0 : Int32) = nI (0 : Int32).toNatClampNeg; decide
  · show (0 : Int32).toNatClampNeg < 65536; decide
  · show (0 : Int32) = nI (0 : Int32).toNatClampNeg; decide
  · show (0 : Int32).toNatClampNeg < 65536; decide
  · show (0 : Int32).toNatClampNeg = 0; decide
  · show (0 : Int32) = nI (0 : Int32).toNatClampNeg; decide
  · show (0 : Int32).toNatClampNeg ≤ 99; decide
theorem zj_0 (f c : Nat) (h : f = 3 → c < 0 ∨ 4 ≤ c) : Z00 13 f c = J00 13 f c := by
  by_cases e : f = 3
  · subst e
    have h4 : 4 ≤ c := by have := h rfl; omega
    show (0 : Int32) = upd (upd (upd (upd (fun _ => 0) 0 10) 1 10) 2 10) 3 10 c
    unfold upd
    simp only [show ¬ c = 0 by omega, show ¬ c = 1 by omega, show ¬ c = 2 by omega, show ¬ c = 3 by omega, if_false]
  · have : J00 13 f = fun _ => 0 := by
      unfold J00
      split
      · next h1 h2 => exact absurd rfl e
      · rfl
    rw [this]
    rfl
theorem pr_0 (k : Nat) (h : k < 4) : J00 13 3 k = 10 := by
  rcases (show k = 0 ∨ k = 1 ∨ k = 2 ∨ k = 3 by omega) with rfl | rfl | rfl | rfl <;> decide
theorem rf_0 : RF (0, 0) P00 := by
  refine ⟨fun h q hh => absurd hh (Nat.not_lt_zero _), fun j q h => ?_, fun j q h => (by cases h), fun j q h => (by cases h), fun i p q _ h => (by cases h)⟩
  have h : (if j < 4 then some j else none) = some q := h
  by_cases e : j < 4
  · rw [if_pos e] at h; cases h; exact e
  · rw [if_neg e] at h; cases h
theorem arr_p {ty : FieldType} {args : Array Value} {s : State} (hp : ∀ C, ty ≠ .object C) (h : (Cond.arrayClass ty).before args s = true) : ∃ c, ArrOfT s c ty ∧ va_RA s c ty := by
  obtain ⟨c, k, comp, h1, h2, h3⟩ := Cond.arrayClass_spec h
  refine ⟨c, fun N z => ⟨(fun k h => by cases h), k, h2, comp, h3⟩, ?_⟩
  cases ty with
  | object C => exact absurd rfl (hp C)
  | _ => exact h1
theorem arr_o {C : String} {s : State} (h : va_AO C s) : ∃ c, ArrOfT s c (.object C) ∧ va_RA s c (.object C) := by
  obtain ⟨comp, c, k, h1, h2, h3, h4, h5⟩ := Cond.arrayOver_spec h
  exact ⟨c, fun N z => ⟨(fun k h => by cases h), k, h3, comp, h4⟩, k, comp, h3, h4, h1, h5⟩
theorem know {args : Array Value} {s : State} (hts : ∀ w ∈ wAll, w.before args s = true) (h0 : va_AO RX0 s) (h1 : va_AO RX1 s) (h2 : va_AO RX2 s) : ∃ (D : va_G) (tt : Nat → ClassId), ∀ ad, va_K D vwCl (wTy (D, tt, ad)) s := by
  obtain ⟨c0, s0, k0⟩ := u_known (C := RX0) (T := TX0) (N := 10) (n := 10) hts iX0 (hts _ is_X0)
  obtain ⟨c1, s1, k1⟩ := u_known (C := RX1) (T := TX1) (N := 5) (n := 5) hts iX1 (hts _ is_X1)
  obtain ⟨c2, s2, k2⟩ := u_known (C := RX2) (T := TX2) (N := 8) (n := 8) hts iX2 (hts _ is_X2)
  obtain ⟨c3, s3, k3⟩ := u_known (C := RX3) (T := TX3) (N := 7) (n := 7) hts iX3 (hts _ is_X3)
  obtain ⟨t0, a0⟩ := arr_p (fun C h => by cases h) (hts _ ac_int)
  obtain ⟨t1, a1⟩ := arr_p (fun C h => by cases h) (hts _ ac_bool)
  obtain ⟨t2, a2⟩ := arr_o h2
  obtain ⟨t3, a3⟩ := arr_o h0
  obtain ⟨t4, a4⟩ := arr_o h1
  refine ⟨(fun k => match k with | 0 => c0 | 1 => c1 | 2 => c2 | _ => c3, fun k => match k with | 0 => s0 | 1 => s1 | 2 => s2 | _ => s3), fun k => match k with | 0 => t0 | 1 => t1 | 2 => t2 | 3 => t3 | _ => t4, fun ad => ⟨fun k q hq => ?_, fun k q hq => ?_⟩⟩
  · match k, hq with
    | 0, hq => cases hq; exact k0
    | 1, hq => cases hq; exact k1
    | 2, hq => cases hq; exact k2
    | 3, hq => cases hq; exact k3
    | k + 4, hq => cases hq
  · match k, hq with
    | 0, hq => cases hq; exact a0
    | 1, hq => cases hq; exact a1
    | 2, hq => cases hq; exact a2
    | 3, hq => cases hq; exact a3
    | 4, hq => cases hq; exact a4
    | k + 5, hq => cases hq
theorem str_ref {args : Array Value} {s : State} {k : Nat} {tx : String} (h : (Cond.stringRef RX3 k tx).before args s = true) (h2 : (Cond.exactly (.string RX3 k) "java/lang/String").before args s = true) : ∃ a, vk_R RX3 k tx a s := by
  obtain ⟨b, -, -, -, hb, -⟩ := Cond.exactly_spec h2
  exact ⟨b, vk_R.of h hb⟩
set_option maxHeartbeats 4000000 in
set_option maxRecDepth 100000 in
theorem start_X {b : Nat} {s : State} (hT : ∀ w ∈ lw_tbl, w.before #[Value.ref b] s = true) (hgv : (Jvm.Cond.and given_1 narrow_1).before #[Value.ref b] s = true) : wX (fun q : Nat => s.heap.size ≤ q) s s.heap := by
  have hs := flat_of_before _ hgv
  refine ⟨?_, ?_, ?_, ?_, ?_⟩
  · intro w hw
    simp only [wCD, List.mem_cons, List.not_mem_nil, or_false] at hw
    rcases hw with rfl | rfl | rfl | rfl | rfl | rfl
    · exact va_Nw.of rfl (hT _ (List.mem_of_getElem? (i := 97) (by decide +kernel)))
    · exact va_Nw.of rfl (hT _ (List.mem_of_getElem? (i := 165) (by decide +kernel)))
    · exact va_Nw.of rfl (hT _ (List.mem_of_getElem? (i := 198) (by decide +kernel)))
    · exact va_Nw.of rfl (hT _ (List.mem_of_getElem? (i := 99) (by decide +kernel)))
    · exact va_Nw.of rfl (hT _ (List.mem_of_getElem? (i := 101) (by decide +kernel)))
    · exact va_Nw.of rfl (hT _ (List.mem_of_getElem? (i := 103) (by decide +kernel)))
  · intro t ht
    simp only [wTx, List.mem_cons, List.not_mem_nil, or_false] at ht
    rcases ht with rfl | rfl | rfl | rfl | rfl | rfl | rfl | rfl | rfl | rfl | rfl | rfl | rfl | rfl | rfl | rfl | rfl | rfl | rfl | rfl | rfl | rfl | rfl | rfl | rfl | rfl | rfl | rfl | rfl
    · exact str_ref (hT _ (List.mem_of_getElem? (i := 136) (by decide +kernel))) (hs _ (by decide +kernel))
    · exact str_ref (hT _ (List.mem_of_getElem? (i := 172) (by decide +kernel))) (hs _ (by decide +kernel))
    · exact str_ref (hT _ (List.mem_of_getElem? (i := 183) (by decide +kernel))) (hs _ (by decide +kernel))
    · exact str_ref (hT _ (List.mem_of_getElem? (i := 194) (by decide +kernel))) (hs _ (by decide +kernel))
    · exact str_ref (hT _ (List.mem_of_getElem? (i := 195) (by decide +kernel))) (hs _ (by decide +kernel))
    · exact str_ref (hT _ (List.mem_of_getElem? (i := 205) (by decide +kernel))) (hs _ (by decide +kernel))
    · exact str_ref (hT _ (List.mem_of_getElem? (i := 263) (by decide +kernel))) (hs _ (by decide +kernel))
    · exact str_ref (hT _ (List.mem_of_getElem? (i := 264) (by decide +kernel))) (hs _ (by decide +kernel))
    · exact str_ref (hT _ (List.mem_of_getElem? (i := 338) (by decide +kernel))) (hs _ (by decide +kernel))
    · exact str_ref (hT _ (List.mem_of_getElem? (i := 339) (by decide +kernel))) (hs _ (by decide +kernel))
    · exact str_ref (hT _ (List.mem_of_getElem? (i := 349) (by decide +kernel))) (hs _ (by decide +kernel))
    · exact str_ref (hT _ (List.mem_of_getElem? (i := 370) (by decide +kernel))) (hs _ (by decide +kernel))
    · exact str_ref (hT _ (List.mem_of_getElem? (i := 442) (by decide +kernel))) (hs _ (by decide +kernel))
    · exact str_ref (hT _ (List.mem_of_getElem? (i := 443) (by decide +kernel))) (hs _ (by decide +kernel))
    · exact str_ref (hT _ (List.mem_of_getElem? (i := 448) (by decide +kernel))) (hs _ (by decide +kernel))
    · exact str_ref (hT _ (List.mem_of_getElem? (i := 461) (by decide +kernel))) (hs _ (by decide +kernel))
    · exact str_ref (hT _ (List.mem_of_getElem? (i := 462) (by decide +kernel))) (hs _ (by decide +kernel))
    · exact str_ref (hT _ (List.mem_of_getElem? (i := 467) (by decide +kernel))) (hs _ (by decide +kernel))
    · exact str_ref (hT _ (List.mem_of_getElem? (i := 468) (by decide +kernel))) (hs _ (by decide +kernel))
    · exact str_ref (hT _ (List.mem_of_getElem? (i := 477) (by decide +kernel))) (hs _ (by decide +kernel))
    · exact str_ref (hT _ (List.mem_of_getElem? (i := 482) (by decide +kernel))) (hs _ (by decide +kernel))
    · exact str_ref (hT _ (List.mem_of_getElem? (i := 487) (by decide +kernel))) (hs _ (by decide +kernel))
    · exact str_ref (hT _ (List.mem_of_getElem? (i := 492) (by decide +kernel))) (hs _ (by decide +kernel))
    · exact str_ref (hT _ (List.mem_of_getElem? (i := 494) (by decide +kernel))) (hs _ (by decide +kernel))
    · exact str_ref (hT _ (List.mem_of_getElem? (i := 495) (by decide +kernel))) (hs _ (by decide +kernel))
    · exact str_ref (hT _ (List.mem_of_getElem? (i := 513) (by decide +kernel))) (hs _ (by decide +kernel))
    · exact str_ref (hT _ (List.mem_of_getElem? (i := 525) (by decide +kernel))) (hs _ (by decide +kernel))
    · exact str_ref (hT _ (List.mem_of_getElem? (i := 549) (by decide +kernel))) (hs _ (by decide +kernel))
    · exact str_ref (hT _ (List.mem_of_getElem? (i := 558) (by decide +kernel))) (hs _ (by decide +kernel))
  · exact vx_Zqof (hT _ (List.mem_of_getElem? (i := 122) (by decide +kernel))) (hT _ (List.mem_of_getElem? (i := 17) (by decide +kernel))) (hs _ (by decide +kernel)) (fun a h => Nat.not_le.mpr h)
  · exact vx_Zqof (hT _ (List.mem_of_getElem? (i := 124) (by decide +kernel))) (hT _ (List.mem_of_getElem? (i := 17) (by decide +kernel))) (hs _ (by decide +kernel)) (fun a h => Nat.not_le.mpr h)
  · intro q hq
    simp only [wNc, List.mem_cons, List.not_mem_nil, or_false] at hq
    rcases hq with rfl | rfl | rfl | rfl
    · exact va_Nc.of (hs _ (by decide +kernel))
    · exact va_Nc.of (hs _ (by decide +kernel))
    · exact va_Nc.of (hs _ (by decide +kernel))
    · exact va_Nc.of (hs _ (by decide +kernel))
def lst0 : List (Nat × Nat) := [(0, 0), (4, 0), (5, 0), (6, 0), (7, 0), (1, 0), (8, 0), (9, 0), (10, 0), (1, 1), (8, 1), (9, 1), (10, 1), (1, 2), (8, 2), (9, 2), (10, 2), (1, 3), (8, 3), (9, 3), (10, 3), (13, 0), (13, 1), (13, 2), (13, 3), (13, 4), (13, 5), (13, 6)]
theorem al0 {k i : Nat} (h : wAl (0, 0) k i) : (k, i) ∈ lst0 := by
  match k, h with
  | 0, h => cases (show i = 0 from h); decide
  | 1, h => rcases (show i = 0 ∨ i = 1 ∨ i = 2 ∨ i = 3 by have : i < 4 := h; omega) with rfl | rfl | rfl | rfl <;> decide
  | 2, h => exact absurd (show i < 0 from h) (Nat.not_lt_zero _)
  | 3, h => exact absurd (show i < 0 from h) (Nat.not_lt_zero _)
  | 4, h => cases (show i = 0 from h); decide
  | 5, h => cases (show i = 0 from h); decide
  | 6, h => cases (show i = 0 from h); decide
  | 7, h => cases (show i = 0 from h); decide
  | 8, h => rcases (show i = 0 ∨ i = 1 ∨ i = 2 ∨ i = 3 by have : i < 4 := h; omega) with rfl | rfl | rfl | rfl <;> decide
  | 9, h => rcases (show i = 0 ∨ i = 1 ∨ i = 2 ∨ i = 3 by have : i < 4 := h; omega) with rfl | rfl | rfl | rfl <;> decide
  | 10, h => rcases (show i = 0 ∨ i = 1 ∨ i = 2 ∨ i = 3 by have : i < 4 := h; omega) with rfl | rfl | rfl | rfl <;> decide
  | 11, h => exact absurd (show i < 0 from h) (Nat.not_lt_zero _)
  | 12, h => exact h.elim
  | 13, h =>
    by_cases h24 : i < 7
    · revert h
      have key : ∀ i, i < 7 → wAl (0, 0) 13 i → (13, i) ∈ lst0 := by
        show ∀ i, i < 7 → 0 < wML i → (13, i) ∈ lst0
        decide
      exact key i h24
    · have h : 0 < wML i := h
      have : wML i = 0 := by
        unfold wML
        rw [List.getD_eq_getElem?_getD, List.getElem?_eq_none (by show 7 ≤ i; omega)]
        rfl
      omega
  | 14, h => exact h.elim
  | _ + 15, h => exact h.elim
def ad0 (qx r0 r1 r2 r3 r4 r5 r6 : Nat) (u3 : Nat → Nat) : Nat → Nat → Nat := fun k i => match k with
  | 0 => qx
  | 1 => ([u3 4, u3 8, u3 12, u3 16].getD i 0)
  | 8 => ([u3 5, u3 9, u3 13, u3 17].getD i 0)
  | 9 => ([u3 6, u3 10, u3 14, u3 18].getD i 0)
  | 10 => ([u3 7, u3 11, u3 15, u3 19].getD i 0)
  | 4 => u3 0
  | 5 => u3 1
  | 6 => u3 2
  | 7 => u3 3
  | 13 => ([r0, r1, r2, r3, r4, r5, r6].getD i 0)
  | _ => 0
end WStart
