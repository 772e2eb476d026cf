section WStart2
set_option maxHeartbeats 4000000 in
set_option maxRecDepth 100000 in
theorem start_W {g0 : wG} {qx r0 r1 r2 r3 r4 r5 r6 : Nat} {u3 : Nat → Nat} {A : Nat → Prop} {H : Heap} (g : wG) (hg : g = (g0.1, g0.2.1, ad0 qx r0 r1 r2 r3 r4 r5 r6 u3)) (hP : va_P g0.1 vwCl [(qx, .inr (3, [.ref (u3 0), .ref (u3 1), .ref (u3 2), .ref (u3 3), .int 0, .int 0, .int 0])), ((u3 0), .inl (g0.2.1 4, 4, .inr (.inr (.inr (.inr (va_up (va_up (va_up (va_up (fun _ => none) 0 (some (u3 4))) 1 (some (u3 8))) 2 (some (u3 12))) 3 (some (u3 16)))))))), ((u3 1), .inl (g0.2.1 1, 6, .inl (fun _ => 0))), ((u3 2), .inl (g0.2.1 2, 12, .inr (.inr (.inr (.inr (fun _ => none)))))), ((u3 3), .inl (g0.2.1 3, 24, .inr (.inr (.inr (.inr (fun _ => none)))))), ((u3 4), .inr (1, [.int 0, .int 10, .ref (u3 5), .ref (u3 6), .ref (u3 7)])), (u3 5, .inl (g0.2.1 0, 16, .inl (fun _ => 0))), (u3 6, .inl (g0.2.1 2, 16, .inr (.inr (.inr (.inr (fun _ => none)))))), (u3 7, .inl (g0.2.1 0, 16, .inl (fun _ => 0))), ((u3 8), .inr (1, [.int 0, .int 10, .ref (u3 9), .ref (u3 10), .ref (u3 11)])), (u3 9, .inl (g0.2.1 0, 16, .inl (fun _ => 0))), (u3 10, .inl (g0.2.1 2, 16, .inr (.inr (.inr (.inr (fun _ => none)))))), (u3 11, .inl (g0.2.1 0, 16, .inl (fun _ => 0))), ((u3 12), .inr (1, [.int 0, .int 10, .ref (u3 13), .ref (u3 14), .ref (u3 15)])), (u3 13, .inl (g0.2.1 0, 16, .inl (fun _ => 0))), (u3 14, .inl (g0.2.1 2, 16, .inr (.inr (.inr (.inr (fun _ => none)))))), (u3 15, .inl (g0.2.1 0, 16, .inl (fun _ => 0))), ((u3 16), .inr (1, [.int 0, .int 10, .ref (u3 17), .ref (u3 18), .ref (u3 19)])), (u3 17, .inl (g0.2.1 0, 16, .inl (fun _ => 0))), (u3 18, .inl (g0.2.1 2, 16, .inr (.inr (.inr (.inr (fun _ => none)))))), (u3 19, .inl (g0.2.1 0, 16, .inl (fun _ => 0))), (r0, .inl (g0.2.1 0, 64, .inl (fun _ => 0))), (r1, .inl (g0.2.1 0, 64, .inl (fun _ => 0))), (r2, .inl (g0.2.1 0, 64, .inl (fun _ => 0))), (r3, .inl (g0.2.1 0, 64, .inl (fun _ => 0))), (r4, .inl (g0.2.1 0, 64, .inl (fun _ => 0))), (r5, .inl (g0.2.1 0, 14, .inl (fun _ => 0))), (r6, .inl (g0.2.1 0, 3, .inl (fun _ => 0)))] H) (hD : va_D A [(qx, .inr (3, [.ref (u3 0), .ref (u3 1), .ref (u3 2), .ref (u3 3), .int 0, .int 0, .int 0])), ((u3 0), .inl (g0.2.1 4, 4, .inr (.inr (.inr (.inr (va_up (va_up (va_up (va_up (fun _ => none) 0 (some (u3 4))) 1 (some (u3 8))) 2 (some (u3 12))) 3 (some (u3 16)))))))), ((u3 1), .inl (g0.2.1 1, 6, .inl (fun _ => 0))), ((u3 2), .inl (g0.2.1 2, 12, .inr (.inr (.inr (.inr (fun _ => none)))))), ((u3 3), .inl (g0.2.1 3, 24, .inr (.inr (.inr (.inr (fun _ => none)))))), ((u3 4), .inr (1, [.int 0, .int 10, .ref (u3 5), .ref (u3 6), .ref (u3 7)])), (u3 5, .inl (g0.2.1 0, 16, .inl (fun _ => 0))), (u3 6, .inl (g0.2.1 2, 16, .inr (.inr (.inr (.inr (fun _ => none)))))), (u3 7, .inl (g0.2.1 0, 16, .inl (fun _ => 0))), ((u3 8), .inr (1, [.int 0, .int 10, .ref (u3 9), .ref (u3 10), .ref (u3 11)])), (u3 9, .inl (g0.2.1 0, 16, .inl (fun _ => 0))), (u3 10, .inl (g0.2.1 2, 16, .inr (.inr (.inr (.inr (fun _ => none)))))), (u3 11, .inl (g0.2.1 0, 16, .inl (fun _ => 0))), ((u3 12), .inr (1, [.int 0, .int 10, .ref (u3 13), .ref (u3 14), .ref (u3 15)])), (u3 13, .inl (g0.2.1 0, 16, .inl (fun _ => 0))), (u3 14, .inl (g0.2.1 2, 16, .inr (.inr (.inr (.inr (fun _ => none)))))), (u3 15, .inl (g0.2.1 0, 16, .inl (fun _ => 0))), ((u3 16), .inr (1, [.int 0, .int 10, .ref (u3 17), .ref (u3 18), .ref (u3 19)])), (u3 17, .inl (g0.2.1 0, 16, .inl (fun _ => 0))), (u3 18, .inl (g0.2.1 2, 16, .inr (.inr (.inr (.inr (fun _ => none)))))), (u3 19, .inl (g0.2.1 0, 16, .inl (fun _ => 0))), (r0, .inl (g0.2.1 0, 64, .inl (fun _ => 0))), (r1, .inl (g0.2.1 0, 64, .inl (fun _ => 0))), (r2, .inl (g0.2.1 0, 64, .inl (fun _ => 0))), (r3, .inl (g0.2.1 0, 64, .inl (fun _ => 0))), (r4, .inl (g0.2.1 0, 64, .inl (fun _ => 0))), (r5, .inl (g0.2.1 0, 14, .inl (fun _ => 0))), (r6, .inl (g0.2.1 0, 3, .inl (fun _ => 0)))]) : wHd g (0, 0) I00 P00 (fun _ => 0) H ∧ ∀ k i, wAl (0, 0) k i → A (g.2.2 k i) := by
  have e4 : (va_up (va_up (va_up (va_up (fun _ => none) 0 (some (u3 4))) 1 (some (u3 8))) 2 (some (u3 12))) 3 (some (u3 16))) = fun j => (P00 4 0 j).map (g.2.2 1) := by
    funext j
    subst hg
    match j with
    | 0 => rfl
    | 1 => rfl
    | 2 => rfl
    | 3 => rfl
    | j + 4 =>
      have h0 : ¬ j + 4 = 0 := by omega
      have h1 : ¬ j + 4 = 1 := by omega
      have h2 : ¬ j + 4 = 2 := by omega
      have h3 : ¬ j + 4 = 3 := by omega
      have hp : P00 4 0 (j + 4) = none := by
        show (if j + 4 < 4 then some (j + 4) else none) = none
        rw [if_neg (by omega)]
      rw [hp]
      simp only [va_up, h0, h1, h2, h3, if_false]
      rfl
  rw [e4] at hP hD
  have hP2 : va_P g.1 vwCl (lst0.map fun q => (g.2.2 q.1 q.2, wE g (I00 q.1 q.2) (P00 q.1 q.2) (fun _ => 0) q.1 q.2)) H := by
    subst hg
    exact hP
  have hD2 : va_D A (lst0.map fun q => (g.2.2 q.1 q.2, wE g (I00 q.1 q.2) (P00 q.1 q.2) (fun _ => 0) q.1 q.2)) := by
    subst hg
    exact hD
  have at_ : ∀ k i, wAl (0, 0) k i → ∃ j, lst0[j]? = some (k, i) ∧ (lst0.map fun q => (g.2.2 q.1 q.2, wE g (I00 q.1 q.2) (P00 q.1 q.2) (fun _ => 0) q.1 q.2))[j]? = some (g.2.2 k i, wE g (I00 k i) (P00 k i) (fun _ => 0) k i) := fun k i h => by
    obtain ⟨j, hj⟩ := List.getElem?_of_mem (al0 h)
    exact ⟨j, hj, by rw [List.getElem?_map, hj]; rfl⟩
  refine ⟨⟨fun k i h => ?_, fun k i k' i' h h' e => ?_⟩, fun k i h => ?_⟩
  · obtain ⟨j, -, hj⟩ := at_ k i h
    exact hP2 j _ hj
  · obtain ⟨j, h1, hj⟩ := at_ k i h
    obtain ⟨j', h1', hj'⟩ := at_ k' i' h'
    have := hD2.1 j j' _ _ hj hj' e
    subst this
    have := h1.symm.trans h1'
    cases this
    exact ⟨rfl, rfl⟩
  · obtain ⟨j, -, hj⟩ := at_ k i h
    exact hD2.2 j _ hj
end WStart2
