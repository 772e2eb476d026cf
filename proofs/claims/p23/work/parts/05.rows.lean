section WRows
variable {p : Program} {l : Launch} {e : Env} {R : Room} {s : State} {m : MethodId} {args : Array Value} {below : List Frame} {meth : Method} {cd : Code} {H : Heap} {locs : List Loc} {cells slots : Nat} {Q : State → Prop}
variable {cc : ByteArray} {pc : Nat} {ls : Array Slot} {rest : List Value} {D : va_G} {cl : List vw_C} {a : Nat} {tys : List (ClassId × FieldType)}
/-- one field of one thing is written; nothing else -/
theorem cl_put (hexec : p.tables.exec = Jvm.exec) (hb : cd.code = cc) {own ref C : String} {T : u_T} {N ci index : Nat} {Ts : List Cond} (hts : ∀ w ∈ Ts, w.before args s = true) (hin : ∀ w ∈ u_ws C T N, w ∈ Ts) (ty0 : Nat → FieldType) (hty : ∀ k, k < N → parseFieldDescriptor (T k).2.2.1 = some (ty0 k)) (hnm : ∀ a, a < N → ∀ b, b < N → a ≠ b → (T a).2.1 ≠ (T b).2.1) (hown : s.vm.findClass own = some m.cls) (hK : va_K D cl tys s) {fs : List Value} (hP : va_at D cl (a, .inr (ci, fs)) H) (hc : cl[ci]? = some (C, T, N)) (k : Nat) (hk : k < N) (hlink : (Cond.fieldLink own index ref (T k).2.1 (T k).2.2.1).before args s = true) (hsame : ∀ x, s.fieldFound? (T k).1 (T k).2.1 (T k).2.2.1 = some x → s.fieldFound? ref (T k).2.1 (T k).2.2.1 = some x) (hfin : (T k).2.2.2 = false) {ty : FieldType} {v : Value} (hd : parseFieldDescriptor (T k).2.2.1 = some ty) (hn : narrow ty v = v) (hfit : fits ty v = true) (hl : k < fs.length)
    (hdg : decode cc pc = .ok (.putfield index, 3)) (kk : ∀ (H1 : Heap) (j : Nat), va_at D cl (a, .inr (ci, fs.set k v)) H1 → H1.size = H.size → (∀ q : Nat, q ≠ a → H1[q]? = H[q]?) → W p l e R s m args below meth cd H1 (locs ++ [⟨a, j⟩]) cells slots Q (F0 m (pc + 3) ls rest)) : W p l e R s m args below meth cd H locs cells slots Q (F0 m pc ls (v :: .ref a :: rest)) := by
  have hap := va_apart (own := own) hts hin ty0 hty hnm hK hc
  obtain ⟨r, h1, cell, q1, q2, q3, q4⟩ := hP
  have hr : r = (C, T, N) := Option.some.inj (h1.symm.trans hc)
  subst hr
  obtain ⟨hS, hfc, kC, hkC, hkind⟩ := hK.1 ci _ hc
  obtain ⟨cf, kf, fi, f, hi, hsl⟩ := hS k hk
  have hlay := hts _ (hin _ (u_in_lay hk))
  unfold u_lay at hlay
  rw [if_neg (by rw [hfin]; decide)] at hlay
  have hst := (u_facts hfc hkC (u_lays hts hin hk) hi).1
  have h6 := u_store hfc hkC hkind hlay hi hd hn hfit
  refine W.putK hexec hb (f := f) ⟨hown, hlink, ⟨_, _, _, hsame _ hi⟩, hst⟩ (by rw [q2]; exact h6) q1 q3 (by rw [hsl]; exact k2_hasslot (q4 k hk)) rfl rfl hdg fun H' e1 e2 e3 => ?_
  rw [hsl] at e1 ⊢
  exact kk H' _ ⟨_, hc, t_OB.to (V := updV (vp_V fs) k v) ⟨_, e1, q2, q3, t_set q4 hap hk v⟩ (fun j _ => vp_updV_set hl v j)⟩ e2 e3
theorem cl_one {q : Nat × va_E} (h : va_at D cl q H) : va_P D cl [q] H := fun k x hx => by
  cases k with
  | zero => cases hx; exact h
  | succ k => cases hx
theorem cl_iast (hexec : p.tables.exec = Jvm.exec) (hb : cd.code = cc) (hK : va_K D cl tys s) (t0 : Nat) {cA : ClassId} {n : Nat} {f : Nat → Int32} (ha : va_at D cl (a, .inl (cA, n, .inl f)) H) (ht : tys[t0]? = some (cA, .int)) {i : Int32} {x : Int32} (hin : vp_in i n) (hdg : decode cc pc = .ok (.iastore, 1))
    (kk : ∀ (H1 : Heap) (j : Nat), va_at D cl (a, .inl (cA, n, .inl (upd f i.toNatClampNeg x))) H1 → H1.size = H.size → (∀ q : Nat, q ≠ a → H1[q]? = H[q]?) → W p l e R s m args below meth cd H1 (locs ++ [⟨a, j⟩]) cells slots Q (F0 m (pc + 1) ls rest)) : W p l e R s m args below meth cd H locs cells slots Q (F0 m pc ls (.int x :: .int i :: .ref a :: rest)) := by
  refine W.iast hexec hb ha ((hK.2 t0 _ ht).1 n (fun j => .int (f j))) (fun q => by cases q) (by show ¬ (i < 0 ∨ (arrV _ _ _).slots.size ≤ _); rw [arrV_size]; exact hin) rfl rfl hdg fun H1 e z oq => ?_
  refine kk H1 _ ?_ z oq
  show H1[a]? = some (vp_cell _ _)
  rw [e]
  rw [vp_cell_i, vp_cell_i, arrV_store]
  congr 2
  funext q
  by_cases hq : q = i.toNatClampNeg
  · subst hq
    simp [updV, upd]
  · simp [updV, upd, hq]
theorem cl_zast (hexec : p.tables.exec = Jvm.exec) (hb : cd.code = cc) (hK : va_K D cl tys s) (t0 : Nat) {cA : ClassId} {n : Nat} {f : Nat → Int32} (ha : va_at D cl (a, .inl (cA, n, .inl f)) H) (ht : tys[t0]? = some (cA, .boolean)) {i : Int32} {x : Int32} (hin : vp_in i n) (hdg : decode cc pc = .ok (.bastore, 1))
    (kk : ∀ (H1 : Heap) (j : Nat), va_at D cl (a, .inl (cA, n, .inl (upd f i.toNatClampNeg (vp_nar .boolean x)))) H1 → H1.size = H.size → (∀ q : Nat, q ≠ a → H1[q]? = H[q]?) → W p l e R s m args below meth cd H1 (locs ++ [⟨a, j⟩]) cells slots Q (F0 m (pc + 1) ls rest)) : W p l e R s m args below meth cd H locs cells slots Q (F0 m pc ls (.int x :: .int i :: .ref a :: rest)) := by
  refine W.zast hexec hb ha ((hK.2 t0 _ ht).1 n (fun j => .int (f j))) (fun q => by cases q) (by show ¬ (i < 0 ∨ (arrV _ _ _).slots.size ≤ _); rw [arrV_size]; exact hin) rfl rfl hdg fun H1 e z oq => ?_
  refine kk H1 _ ?_ z oq
  show H1[a]? = some (vp_cell _ _)
  rw [e]
  rw [vp_cell_i, vp_cell_i, arrV_store]
  congr 2
  funext q
  by_cases hq : q = i.toNatClampNeg
  · subst hq
    simp [updV, upd, vp_nar]
    try rfl
  · simp [updV, upd, hq]
theorem cl_last (hexec : p.tables.exec = Jvm.exec) (hb : cd.code = cc) (hK : va_K D cl tys s) (t0 : Nat) {cA : ClassId} {n : Nat} {f : Nat → Int64} (ha : va_at D cl (a, .inl (cA, n, .inr (.inl f))) H) (ht : tys[t0]? = some (cA, .long)) {i : Int32} {x : Int64} (hin : vp_in i n) (hdg : decode cc pc = .ok (.lastore, 1))
    (kk : ∀ (H1 : Heap) (j : Nat), va_at D cl (a, .inl (cA, n, .inr (.inl (vp_updL f i.toNatClampNeg x)))) H1 → H1.size = H.size → (∀ q : Nat, q ≠ a → H1[q]? = H[q]?) → W p l e R s m args below meth cd H1 (locs ++ [⟨a, j⟩]) cells slots Q (F0 m (pc + 1) ls rest)) : W p l e R s m args below meth cd H locs cells slots Q (F0 m pc ls (.long x :: .int i :: .ref a :: rest)) := by
  refine W.last hexec hb ha ((hK.2 t0 _ ht).1 n (fun j => .long (f j))) (fun q => by cases q) (by show ¬ (i < 0 ∨ (arrV _ _ _).slots.size ≤ _); rw [arrV_size]; exact hin) rfl rfl hdg fun H1 e z oq => ?_
  refine kk H1 _ ?_ z oq
  show H1[a]? = some (vp_cell _ _)
  rw [e]
  rw [vp_cell_l, vp_cell_l, arrV_store]
  congr 2
  funext q
  by_cases hq : q = i.toNatClampNeg
  · subst hq
    simp [updV, vp_updL]
  · simp [updV, vp_updL, hq]
theorem cl_aast (hexec : p.tables.exec = Jvm.exec) (hb : cd.code = cc) (hK : va_K D cl tys s) (t0 ci : Nat) {cA : ClassId} {r : vw_C} {n v : Nat} {vs : List Value} {f : Nat → Option Nat} (ha : va_at D cl (a, .inl (cA, n, .inr (.inr (.inr (.inr f))))) H) (ht : tys[t0]? = some (cA, .object r.1)) (hv : va_at D cl (v, .inr (ci, vs)) H) (hc : cl[ci]? = some r) {i : Int32} (hin : vp_in i n) (hdg : decode cc pc = .ok (.aastore, 1))
    (kk : ∀ (H1 : Heap) (j : Nat), va_at D cl (a, .inl (cA, n, .inr (.inr (.inr (.inr (va_up f i.toNatClampNeg (some v))))))) H1 → H1.size = H.size → (∀ q : Nat, q ≠ a → H1[q]? = H[q]?) → W p l e R s m args below meth cd H1 (locs ++ [⟨a, j⟩]) cells slots Q (F0 m (pc + 1) ls rest)) : W p l e R s m args below meth cd H locs cells slots Q (F0 m pc ls (.ref v :: .int i :: .ref a :: rest)) := by
  have hlt : i.toNatClampNeg < n := Nat.not_le.mp fun q => hin (Or.inr q)
  have h0 : ¬ i < 0 := fun q => hin (Or.inl q)
  obtain ⟨r', hr', cellV, g1, g2, g3, -⟩ := hv
  have hcls := (hK.1 ci r hc).2
  obtain ⟨kA, comp, k1, k2, k3, -⟩ := (hK.2 t0 _ ht).2
  have hcomp : comp = D.1 ci := Option.some.inj (k3.symm.trans hcls.1)
  subst hcomp
  obtain ⟨kC, hkC, -⟩ := hcls.2
  refine W.aast hexec hb ha (fun q h => by cases h) (fun h => by cases h) k1 k2 rfl hkC ⟨h0, by show _ < (arrV _ _ _).slots.size; rw [arrV_size]; exact hlt⟩ g1 (fun q h => by rw [g3] at h; cases h) (by rw [g2]; exact hkC) (by rw [g2]; exact va_assign hcls) rfl rfl hdg fun H1 e z oq => ?_
  refine kk H1 _ ?_ z oq
  show H1[a]? = some (vp_cell _ _)
  rw [e]
  rw [vp_cell_q, vp_cell_q, arrV_store]
  congr 2
  funext q
  by_cases hq : q = i.toNatClampNeg
  · subst hq
    simp [updV, va_up, va_rf]
  · simp [updV, va_up, hq]
theorem cl_aastN (hexec : p.tables.exec = Jvm.exec) (hb : cd.code = cc) (hK : va_K D cl tys s) (t0 : Nat) {cA : ClassId} {C : String} {n : Nat} {f : Nat → Option Nat} (ha : va_at D cl (a, .inl (cA, n, .inr (.inr (.inr (.inr f))))) H) (ht : tys[t0]? = some (cA, .object C)) {i : Int32} (hin : vp_in i n) (hdg : decode cc pc = .ok (.aastore, 1))
    (kk : ∀ (H1 : Heap) (j : Nat), va_at D cl (a, .inl (cA, n, .inr (.inr (.inr (.inr (va_up f i.toNatClampNeg none)))))) H1 → H1.size = H.size → (∀ q : Nat, q ≠ a → H1[q]? = H[q]?) → W p l e R s m args below meth cd H1 (locs ++ [⟨a, j⟩]) cells slots Q (F0 m (pc + 1) ls rest)) : W p l e R s m args below meth cd H locs cells slots Q (F0 m pc ls (.null :: .int i :: .ref a :: rest)) := by
  refine va_WaastN (C := C) hexec hb ha ((hK.2 t0 _ ht).1 n (fun j => va_rf (f j))) (fun h => by cases h) (by show ¬ (i < 0 ∨ (arrV _ _ _).slots.size ≤ _); rw [arrV_size]; exact hin) rfl rfl hdg fun H1 e z oq => ?_
  refine kk H1 _ ?_ z oq
  show H1[a]? = some (vp_cell _ _)
  rw [e]
  rw [vp_cell_q, vp_cell_q, arrV_store]
  congr 2
  funext q
  by_cases hq : q = i.toNatClampNeg
  · subst hq
    simp [updV, va_up, va_rf]
  · simp [updV, va_up, hq]
end WRows
section WRows2
variable {K : wK} {cc : ByteArray} {own : String} {nL : Nat} {ret : Option FieldType} {rm : Room} {z : wZ} {I : wI} {P : wP} {O : wO} {c n pc pc' : Nat} {L : List (Nat × Value)} {S : List Value}
theorem g_getf (C : Cx K cc own nL ret rm z) {ci index k i f N : Nat} {fs : List Value} {v : Value} {Cn ref : String} {T : u_T} (d : decode cc pc = .ok (.getfield index, 3)) (hal : wAl z k i) (he : wE (Kg K) (I k i) (P k i) O k i = .inr (ci, fs)) (hc : vwCl[ci]? = some (Cn, T, N)) (hin : ∀ w ∈ u_ws Cn T N, w ∈ wAll) (hk : f < N) (hlink : Cond.fieldLink own index ref (T f).2.1 (T f).2.2.1 ∈ wAll) (hsame : (T f).1 = ref) (hv : fs[f]? = some v) (hp : pc + 3 = pc') (kk : G K z I P O c n pc' L (v :: S)) : G K z I P O c n pc L (.ref ((Kg K).2.2 k i) :: S) := by
  subst hp
  subst hsame
  obtain ⟨p, l, e, R, s, m, args, below, meth, cd, Q, g, A⟩ := K
  obtain ⟨hx, hb, -, -, hown, hts, -, hK, -, -⟩ := C
  intro H locs ls hH hS hl hcat
  have hP := cl_one (hH.1 k i hal)
  rw [show wE g (I k i) (P k i) O k i = .inr (ci, fs) from he] at hP
  exact va_get hx hb hts hin hown hK hP 0 rfl hc f hk (hts _ hlink) (fun _ h => h) hv d (kk H locs ls hH hS hl hcat)
theorem g_putf (C : Cx K cc own nL ret rm z) {ci index k i f N : Nat} {fs : List Value} {x : Int32} {Cn ref : String} {T : u_T} {ty0 : Nat → FieldType} {ty : FieldType} (d : decode cc pc = .ok (.putfield index, 3)) (hal : wAl z k i) (he : wE (Kg K) (I k i) (P k i) O k i = .inr (ci, fs)) (hc : vwCl[ci]? = some (Cn, T, N)) (hin : ∀ w ∈ u_ws Cn T N, w ∈ wAll) (hty : ∀ k, k < N → parseFieldDescriptor (T k).2.2.1 = some (ty0 k)) (hnm : ∀ a, a < N → ∀ b, b < N → a ≠ b → (T a).2.1 ≠ (T b).2.1) (hk : f < N) (hlink : Cond.fieldLink own index ref (T f).2.1 (T f).2.2.1 ∈ wAll) (hsame : (T f).1 = ref) (hfin : (T f).2.2.2 = false) (hd : parseFieldDescriptor (T f).2.2.1 = some ty) (hn : narrow ty (.int x) = .int x) (hfit : fits ty (.int x) = true) (hl : f < fs.length)
    (he' : wE (Kg K) (upd (I k i) f x) (P k i) O k i = .inr (ci, fs.set f (.int x))) (hp : pc + 3 = pc') (kk : G K z (upI I k i f x) P O c n pc' L S) : G K z I P O c n pc L (.int x :: .ref ((Kg K).2.2 k i) :: S) := by
  subst hp
  subst hsame
  obtain ⟨p, l, e, R, s, m, args, below, meth, cd, Q, g, A⟩ := K
  obtain ⟨hx, hb, -, -, hown, hts, -, hK, -, hA⟩ := C
  intro H locs ls hH hS hl2 hcat
  have hP := hH.1 k i hal
  rw [show wE g (I k i) (P k i) O k i = .inr (ci, fs) from he] at hP
  refine cl_put hx hb hts hin ty0 hty hnm hown hK hP hc f hk (hts _ hlink) (fun _ h => h) hfin hd hn hfit hl d (fun H1 j h1 hz oq => ?_)
  refine kk H1 _ ls (hH.put hal (fun a b h => upI_off I x h) (fun _ _ _ => rfl) (fun _ _ _ _ => rfl) ?_ oq) (hS.put hz oq (hA k i hal)) hl2 hcat
  rw [upI_row, show wE g (upd (I k i) f x) (P k i) O k i = _ from he']
  exact h1
theorem g_iald (C : Cx K cc own nL ret rm z) {k i N : Nat} {j : Int32} (t : Nat) (hj : j = nI t) (ht : t < N) (d : decode cc pc = .ok (.iaload, 1)) (hal : wAl z k i) (he : wE (Kg K) (I k i) (P k i) O k i = .inl ((Kg K).2.1 0, N, .inl (I k i))) (hN : Nat.blt N 5000 = true) (hp : pc + 1 = pc') (kk : G K z I P O c n pc' L (.int (I k i t) :: S)) : G K z I P O c n pc L (.int j :: .ref ((Kg K).2.2 k i) :: S) := by
  subst hp
  subst hj
  have hN : N < 5000 := Nat.le_of_ble_eq_true hN
  obtain ⟨p, l, e, R, s, m, args, below, meth, cd, Q, g, A⟩ := K
  obtain ⟨hx, hb, -, -, hown, hts, -, hK, -, hA⟩ := C
  intro H locs ls hH hS hl hcat
  have hP := cl_one (hH.1 k i hal)
  rw [show wE g (I k i) (P k i) O k i = _ from he] at hP
  have kk := kk H locs ls hH hS hl hcat
  rw [← nI_clamp (n := t) (by omega)] at kk
  exact va_iald hx hb hK hP 0 0 rfl rfl (vp_in_nI ht (by omega)) d kk
theorem g_zald (C : Cx K cc own nL ret rm z) {k i N : Nat} {j : Int32} (t : Nat) (hj : j = nI t) (ht : t < N) (d : decode cc pc = .ok (.baload, 1)) (hal : wAl z k i) (he : wE (Kg K) (I k i) (P k i) O k i = .inl ((Kg K).2.1 1, N, .inl (I k i))) (hN : Nat.blt N 5000 = true) (hp : pc + 1 = pc') (kk : G K z I P O c n pc' L (.int (I k i t) :: S)) : G K z I P O c n pc L (.int j :: .ref ((Kg K).2.2 k i) :: S) := by
  subst hp
  subst hj
  have hN : N < 5000 := Nat.le_of_ble_eq_true hN
  obtain ⟨p, l, e, R, s, m, args, below, meth, cd, Q, g, A⟩ := K
  obtain ⟨hx, hb, -, -, hown, hts, -, hK, -, hA⟩ := C
  intro H locs ls hH hS hl hcat
  have hP := cl_one (hH.1 k i hal)
  rw [show wE g (I k i) (P k i) O k i = _ from he] at hP
  have kk := kk H locs ls hH hS hl hcat
  rw [← nI_clamp (n := t) (by omega)] at kk
  exact va_zald hx hb hK hP 0 1 rfl rfl (vp_in_nI ht (by omega)) d kk
theorem g_iast (C : Cx K cc own nL ret rm z) {k i N : Nat} {j x : Int32} (t : Nat) (hj : j = nI t) (ht : t < N) (d : decode cc pc = .ok (.iastore, 1)) (hal : wAl z k i) (he : ∀ f, wE (Kg K) f (P k i) O k i = .inl ((Kg K).2.1 0, N, .inl f)) (hN : Nat.blt N 5000 = true) (hp : pc + 1 = pc') (kk : G K z (upI I k i t x) P O c n pc' L S) : G K z I P O c n pc L (.int x :: .int j :: .ref ((Kg K).2.2 k i) :: S) := by
  subst hp
  subst hj
  have hN : N < 5000 := Nat.le_of_ble_eq_true hN
  obtain ⟨p, l, e, R, s, m, args, below, meth, cd, Q, g, A⟩ := K
  obtain ⟨hx, hb, -, -, hown, hts, -, hK, -, hA⟩ := C
  intro H locs ls hH hS hl hcat
  have hP := hH.1 k i hal
  rw [show wE g (I k i) (P k i) O k i = _ from he _] at hP
  refine cl_iast hx hb hK 0 hP rfl (vp_in_nI ht (by omega)) d (fun H1 q h1 hz oq => ?_)
  refine kk H1 _ ls (hH.put hal (fun a b h => upI_off I x h) (fun _ _ _ => rfl) (fun _ _ _ _ => rfl) ?_ oq) (hS.put hz oq (hA k i hal)) hl hcat
  rw [upI_row, show wE g (upd (I k i) t x) (P k i) O k i = _ from he _]
  rw [nI_clamp (n := t) (by omega)] at h1
  exact h1
theorem g_zast (C : Cx K cc own nL ret rm z) {k i N : Nat} {j x : Int32} (t : Nat) (hj : j = nI t) (ht : t < N) (hx01 : vp_nar .boolean x = x) (d : decode cc pc = .ok (.bastore, 1)) (hal : wAl z k i) (he : ∀ f, wE (Kg K) f (P k i) O k i = .inl ((Kg K).2.1 1, N, .inl f)) (hN : Nat.blt N 5000 = true) (hp : pc + 1 = pc') (kk : G K z (upI I k i t x) P O c n pc' L S) : G K z I P O c n pc L (.int x :: .int j :: .ref ((Kg K).2.2 k i) :: S) := by
  subst hp
  subst hj
  have hN : N < 5000 := Nat.le_of_ble_eq_true hN
  obtain ⟨p, l, e, R, s, m, args, below, meth, cd, Q, g, A⟩ := K
  obtain ⟨hx, hb, -, -, hown, hts, -, hK, -, hA⟩ := C
  intro H locs ls hH hS hl hcat
  have hP := hH.1 k i hal
  rw [show wE g (I k i) (P k i) O k i = _ from he _] at hP
  refine cl_zast hx hb hK 1 hP rfl (vp_in_nI ht (by omega)) d (fun H1 q h1 hz oq => ?_)
  refine kk H1 _ ls (hH.put hal (fun a b h => upI_off I x h) (fun _ _ _ => rfl) (fun _ _ _ _ => rfl) ?_ oq) (hS.put hz oq (hA k i hal)) hl hcat
  rw [upI_row, show wE g (upd (I k i) t x) (P k i) O k i = _ from he _]
  rw [nI_clamp (n := t) (by omega), hx01] at h1
  exact h1
/-- a row of things: what lies there is known -/
theorem g_aald (C : Cx K cc own nL ret rm z) {k i N k2 t0 : Nat} {j : Int32} {Cn : String} {cA : ClassId} {o : Option Nat} (t : Nat) (hj : j = nI t) (ht : t < N) (hq : P k i t = o) (d : decode cc pc = .ok (.aaload, 1)) (hal : wAl z k i) (he : wE (Kg K) (I k i) (P k i) O k i = .inl (cA, N, .inr (.inr (.inr (.inr (fun j => (P k i j).map ((Kg K).2.2 k2))))))) (hty : (wTy (Kg K))[t0]? = some (cA, .object Cn)) (hN : Nat.blt N 5000 = true) (hp : pc + 1 = pc') (kk : G K z I P O c n pc' L (va_rf (o.map ((Kg K).2.2 k2)) :: S)) : G K z I P O c n pc L (.int j :: .ref ((Kg K).2.2 k i) :: S) := by
  subst hp
  subst hj
  subst hq
  have hN : N < 5000 := Nat.le_of_ble_eq_true hN
  obtain ⟨p, l, e, R, s, m, args, below, meth, cd, Q, g, A⟩ := K
  obtain ⟨hx, hb, -, -, hown, hts, -, hK, -, hA⟩ := C
  intro H locs ls hH hS hl hcat
  have hP := cl_one (hH.1 k i hal)
  rw [show wE g (I k i) (P k i) O k i = _ from he] at hP
  have kk := kk H locs ls hH hS hl hcat
  rw [← nI_clamp (n := t) (by omega)] at kk
  exact va_aldq hx hb hK hP 0 t0 rfl hty (vp_in_nI ht (by omega)) d kk
theorem wQ_up {ad : Nat → Nat} {f : Nat → Option Nat} {t : Nat} {v : Option Nat} : (fun j => (va_up f t v j).map ad) = va_up (fun j => (f j).map ad) t (v.map ad) := by
  funext j
  unfold va_up
  split <;> rfl
theorem g_aast (C : Cx K cc own nL ret rm z) {k i N k2 t0 ci v : Nat} {j : Int32} {r : vw_C} {vs : List Value} {cA : ClassId} (t : Nat) (hj : j = nI t) (ht : t < N) (d : decode cc pc = .ok (.aastore, 1)) (hal : wAl z k i) (halv : wAl z k2 v) (he : ∀ q, wE (Kg K) (I k i) q O k i = .inl (cA, N, .inr (.inr (.inr (.inr (fun j => (q j).map ((Kg K).2.2 k2))))))) (hev : wE (Kg K) (I k2 v) (P k2 v) O k2 v = .inr (ci, vs)) (hc : vwCl[ci]? = some r) (hty : (wTy (Kg K))[t0]? = some (cA, .object r.1)) (hN : Nat.blt N 5000 = true) (hp : pc + 1 = pc') (kk : G K z I (upP P k i t (some v)) O c n pc' L S) : G K z I P O c n pc L (.ref ((Kg K).2.2 k2 v) :: .int j :: .ref ((Kg K).2.2 k i) :: S) := by
  subst hp
  subst hj
  have hN : N < 5000 := Nat.le_of_ble_eq_true hN
  obtain ⟨p, l, e, R, s, m, args, below, meth, cd, Q, g, A⟩ := K
  obtain ⟨hx, hb, -, -, hown, hts, -, hK, -, hA⟩ := C
  intro H locs ls hH hS hl hcat
  have hP := hH.1 k i hal
  rw [show wE g (I k i) (P k i) O k i = _ from he _] at hP
  have hV := hH.1 k2 v halv
  rw [show wE g (I k2 v) (P k2 v) O k2 v = _ from hev] at hV
  refine cl_aast hx hb hK t0 ci hP hty hV hc (vp_in_nI ht (by omega)) d (fun H1 q h1 hz oq => ?_)
  refine kk H1 _ ls (hH.put hal (fun _ _ _ => rfl) (fun a b h => upP_off P _ h) (fun _ _ _ _ => rfl) ?_ oq) (hS.put hz oq (hA k i hal)) hl hcat
  rw [upP_row, show wE g (I k i) (va_up (P k i) t (some v)) O k i = _ from he _, wQ_up]
  rw [nI_clamp (n := t) (by omega)] at h1
  exact h1
theorem g_aastN (C : Cx K cc own nL ret rm z) {k i N k2 t0 : Nat} {j : Int32} {Cn : String} {cA : ClassId} (t : Nat) (hj : j = nI t) (ht : t < N) (d : decode cc pc = .ok (.aastore, 1)) (hal : wAl z k i) (he : ∀ q, wE (Kg K) (I k i) q O k i = .inl (cA, N, .inr (.inr (.inr (.inr (fun j => (q j).map ((Kg K).2.2 k2))))))) (hty : (wTy (Kg K))[t0]? = some (cA, .object Cn)) (hN : Nat.blt N 5000 = true) (hp : pc + 1 = pc') (kk : G K z I (upP P k i t none) O c n pc' L S) : G K z I P O c n pc L (.null :: .int j :: .ref ((Kg K).2.2 k i) :: S) := by
  subst hp
  subst hj
  have hN : N < 5000 := Nat.le_of_ble_eq_true hN
  obtain ⟨p, l, e, R, s, m, args, below, meth, cd, Q, g, A⟩ := K
  obtain ⟨hx, hb, -, -, hown, hts, -, hK, -, hA⟩ := C
  intro H locs ls hH hS hl hcat
  have hP := hH.1 k i hal
  rw [show wE g (I k i) (P k i) O k i = _ from he _] at hP
  refine cl_aastN hx hb hK t0 hP hty (vp_in_nI ht (by omega)) d (fun H1 q h1 hz oq => ?_)
  refine kk H1 _ ls (hH.put hal (fun _ _ _ => rfl) (fun a b h => upP_off P _ h) (fun _ _ _ _ => rfl) ?_ oq) (hS.put hz oq (hA k i hal)) hl hcat
  rw [upP_row, show wE g (I k i) (va_up (P k i) t none) O k i = _ from he _, wQ_up]
  rw [nI_clamp (n := t) (by omega)] at h1
  exact h1
theorem g_alen (C : Cx K cc own nL ret rm z) {k i t0 : Nat} {cA : ClassId} {x : vp_A} {ty : FieldType} {v : Int32} (d : decode cc pc = .ok (.arraylength, 1)) (hal : wAl z k i) (he : wE (Kg K) (I k i) (P k i) O k i = .inl (cA, x)) (hty : (wTy (Kg K))[t0]? = some (cA, ty)) (hv : Int32.ofNat x.1 = v) (hp : pc + 1 = pc') (kk : G K z I P O c n pc' L (.int v :: S)) : G K z I P O c n pc L (.ref ((Kg K).2.2 k i) :: S) := by
  subst hp
  obtain ⟨p, l, e, R, s, m, args, below, meth, cd, Q, g, A⟩ := K
  obtain ⟨hx, hb, -, -, hown, hts, -, hK, -, hA⟩ := C
  intro H locs ls hH hS hl hcat
  have hP := cl_one (hH.1 k i hal)
  rw [show wE g (I k i) (P k i) O k i = _ from he] at hP
  exact va_alen hx hb hK hP 0 t0 rfl hty hv d (kk H locs ls hH hS hl hcat)
theorem g_acmp_ne2 (C : Cx K cc own nL ret rm z) {k i j : Nat} {off : Int} {tgt : Nat} (hi : wAl z k i) (hj : wAl z k j) (d : decode cc pc = .ok (.if_acmp .ne off, 3)) (ht : (pc : Int) + off = (tgt : Int)) (hp : pc + 3 = pc') (kt : ¬ i = j → G K z I P O c n tgt L S) (kf : i = j → G K z I P O c n pc' L S) : G K z I P O c n pc L (.ref ((Kg K).2.2 k j) :: .ref ((Kg K).2.2 k i) :: S) := by
  subst hp
  obtain ⟨p, l, e, R, s, m, args, below, meth, cd, Q, g, A⟩ := K
  intro H locs ls hH hS hl hc
  refine lv_acmp_ne (rx := some (g.2.2 k i)) (ry := some (g.2.2 k j)) C.1 C.2.1 d ht (fun h => kt (fun q => h (by rw [q])) H locs ls hH hS hl hc) (fun h => kf (hH.2 k i k j hi hj (Option.some.inj h)).2 H locs ls hH hS hl hc)
theorem g_acmp_eq2 (C : Cx K cc own nL ret rm z) {k i j : Nat} {off : Int} {tgt : Nat} (hi : wAl z k i) (hj : wAl z k j) (d : decode cc pc = .ok (.if_acmp .eq off, 3)) (ht : (pc : Int) + off = (tgt : Int)) (hp : pc + 3 = pc') (kt : i = j → G K z I P O c n tgt L S) (kf : ¬ i = j → G K z I P O c n pc' L S) : G K z I P O c n pc L (.ref ((Kg K).2.2 k j) :: .ref ((Kg K).2.2 k i) :: S) := by
  subst hp
  obtain ⟨p, l, e, R, s, m, args, below, meth, cd, Q, g, A⟩ := K
  intro H locs ls hH hS hl hc
  refine lv_acmp_eq (rx := some (g.2.2 k i)) (ry := some (g.2.2 k j)) C.1 C.2.1 d ht (fun h => kt (hH.2 k i k j hi hj (Option.some.inj h)).2 H locs ls hH hS hl hc) (fun h => kf (fun q => h (by rw [q])) H locs ls hH hS hl hc)
/-- the end of a method that makes nothing -/
def rQ (g : wG) (z : wZ) (O : wO) (post : Option Value → wI → wP → Prop) : Array Value → State → Outcome → State → Prop := fun _ st oc t => (∃ (v : Option Value) (I' : wI) (P' : wP), oc = .returned v ∧ post v I' P' ∧ wHd g z I' P' O t.heap) ∧ va_F (wA g z) st t
def Rx : wK → wZ → wO → (Option Value → wI → wP → Prop) → Prop
  | (p, l, e, R, s, m, args, below, meth, cd, Q, g, A), z, O, post => Q = MQ below (rQ g z O post) args s 0 0 (wA g z) ∧ A = wA g z
def RT (l : Launch) (y : MethodName) (bc : ByteArray) (mxl : Nat) (ret : Option FieldType) (rm : Room) (g : wG) (z : wZ) (args : List Value) (I : wI) (P : wP) (O : wO) (post : Option Value → wI → wP → Prop) : Prop := Met l y (.code y bc mxl ret :: wAll) rm (va_Pc args (fun U => wHd g z I P O U.heap ∧ va_K g.1 vwCl (wTy g) U)) (rQ g z O post) 0 0 (wA g z)
theorem RT.of {l : Launch} {y : MethodName} {bc : ByteArray} {mxl : Nat} {ret : Option FieldType} {rm : Room} {g : wG} {z : wZ} {args : List Value} {I : wI} {P : wP} {O : wO} {post : Option Value → wI → wP → Prop} {own : String} (ho : y.cls = own) (hy : plainName y.cls = true) (hn : (lg_sl args).length ≤ mxl) (hcat0 : (lv_args 0 args).all (fun q => q.2.category == 1) = true)
    (walk : ∀ K : wK, Cx K bc own mxl ret rm z → Kl K = l → Kg K = g → Rx K z O post → G K z I P O 0 0 0 (lv_args 0 args) []) : RT l y bc mxl ret rm g z args I P O post := by
  have hcat : ∀ q ∈ lv_args 0 args, q.2.category = 1 := fun q hq => by simpa using List.all_eq_true.mp hcat0 q hq
  refine Met.ofW (cc := bc) (maxL := mxl) (ret := ret) hy rfl ?_
  intro p e s m av below meth c s₁ B hml hv
  obtain ⟨rfl, hH, hK⟩ := hv
  rw [lg_entry_eq]
  have hts := atoms_spec (ws := .code y bc mxl ret :: wAll) B.pre
  have hl := lv_entry args hn
  refine walk (p, l, e, rm, s, m, args.toArray, below, meth, c, MQ below (rQ g z O post) args.toArray s 0 0 (wA g z), g, wA g z) ⟨B.exec, B.bytes, B.returns, hml, ?_, fun w hw => hts w (List.mem_cons_of_mem _ hw), B.notSynchronized, hK, rfl, fun k i h => ⟨k, i, h, rfl⟩⟩ rfl rfl ⟨rfl, rfl⟩ s.heap [] _ hH va_S.rf ?_ hcat
  · rw [← ho]; exact findClass_of_methodNamed B.named
  · rw [hml]; exact hl
theorem g_iret {post : Option Value → wI → wP → Prop} {v : Int32} (C : Cx K cc own nL (some .int) rm z) (hR : Rx K z O post) (d : decode cc pc = .ok (.ireturn, 1)) (hq : post (some (.int v)) I P) : G K z I P O 0 0 pc L [.int v] := by
  obtain ⟨p, l, e, R, s, m, args, below, meth, cd, Q, g, A⟩ := K
  obtain ⟨rfl, rfl⟩ := hR
  obtain ⟨hx, hb, hr, -, hown, hts, hlk, hK, -, hA⟩ := C
  intro H locs ls hH hS hl hc
  exact W.iret hx hb hr (fun t ht hW => ⟨⟨_, I, P, rfl, hq, by rw [ht]; exact hH⟩, hS.F ht⟩) hS.2.2 d hlk
theorem g_zret {post : Option Value → wI → wP → Prop} {v : Int32} (C : Cx K cc own nL (some .boolean) rm z) (hR : Rx K z O post) (d : decode cc pc = .ok (.ireturn, 1)) (hv : narrow .boolean (.int v) = .int v) (hq : post (some (.int v)) I P) : G K z I P O 0 0 pc L [.int v] := by
  obtain ⟨p, l, e, R, s, m, args, below, meth, cd, Q, g, A⟩ := K
  obtain ⟨rfl, rfl⟩ := hR
  obtain ⟨hx, hb, hr, -, hown, hts, hlk, hK, -, hA⟩ := C
  intro H locs ls hH hS hl hc
  exact W.zret hx hb hr hv (fun t ht hW => ⟨⟨_, I, P, rfl, hq, by rw [ht]; exact hH⟩, hS.F ht⟩) hS.2.2 d hlk
theorem g_aret {post : Option Value → wI → wP → Prop} {v : Value} {nm : String} (C : Cx K cc own nL (some (.object nm)) rm z) (hR : Rx K z O post) (d : decode cc pc = .ok (.areturn, 1)) (hv : v = .null ∨ ∃ a, v = .ref a) (hq : post (some v) I P) : G K z I P O 0 0 pc L [v] := by
  obtain ⟨p, l, e, R, s, m, args, below, meth, cd, Q, g, A⟩ := K
  obtain ⟨rfl, rfl⟩ := hR
  obtain ⟨hx, hb, hr, -, hown, hts, hlk, hK, -, hA⟩ := C
  intro H locs ls hH hS hl hc
  exact W.aret hx hb hr (Or.inl ⟨_, rfl⟩) hv (fun t ht hW => ⟨⟨_, I, P, rfl, hq, by rw [ht]; exact hH⟩, hS.F ht⟩) hS.2.2 d hlk
theorem g_vret {post : Option Value → wI → wP → Prop} (C : Cx K cc own nL none rm z) (hR : Rx K z O post) (d : decode cc pc = .ok (.return_, 1)) (hq : post none I P) : G K z I P O 0 0 pc L [] := by
  obtain ⟨p, l, e, R, s, m, args, below, meth, cd, Q, g, A⟩ := K
  obtain ⟨rfl, rfl⟩ := hR
  obtain ⟨hx, hb, hr, -, hown, hts, hlk, hK, -, hA⟩ := C
  intro H locs ls hH hS hl hc
  exact W.vret hx hb hr (fun t ht hW => ⟨⟨_, I, P, rfl, hq, by rw [ht]; exact hH⟩, hS.F ht⟩) hS.2.2 d hlk
theorem wV_good {own Cn : String} {index mxl : Nat} {y : MethodName} {bc : ByteArray} {rt : Option FieldType} (h : wV own index Cn y bc mxl rt) : GoodIn wAll (wsV own index Cn y (.code y bc mxl rt :: wAll)) := by
  obtain ⟨h1, h2, h3, h4, h5⟩ := h
  intro w hw
  have hm : w ∈ wAll := by
    unfold wsV at hw
    simp only [List.cons_append, List.nil_append, List.mem_cons] at hw
    rcases hw with rfl | rfl | rfl | rfl | rfl | hw
    · exact h1
    · exact h2
    · exact h3
    · exact h4
    · exact h5
    · exact hw
  exact wAll_self w hm
theorem wS_good {own : String} {index mxl : Nat} {y : MethodName} {bc : ByteArray} {rt : Option FieldType} (h : wS own index y bc mxl rt) : GoodIn wAll (va_wsS own index y (.code y bc mxl rt :: wAll)) := by
  obtain ⟨h1, h2, h3, h5⟩ := h
  intro w hw
  have hm : w ∈ wAll := by
    unfold va_wsS at hw
    simp only [List.cons_append, List.nil_append, List.mem_cons] at hw
    rcases hw with rfl | rfl | rfl | rfl | hw
    · exact h1
    · exact h2
    · exact h3
    · exact h5
    · exact hw
  exact wAll_self w hm
theorem wBlind {g : wG} {z : wZ} {I : wI} {P : wP} {O : wO} {args : List Value} : FrameBlind (va_Pc args (fun U => wHd g z I P O U.heap ∧ va_K g.1 vwCl (wTy g) U)) := fun a U f mk q => by
  obtain ⟨q0, q1, q2⟩ := q
  exact ⟨q0, q1, va_K.moved (u := U) (U := U.calling f mk a) (Vm.Alike.refl U.vm) q2⟩
theorem wA_in {g : wG} {z : wZ} {A : Nat → Prop} (hA : ∀ k i, wAl z k i → A (g.2.2 k i)) : ∀ q, wA g z q → A q := fun q h => by
  obtain ⟨k, i, h1, rfl⟩ := h
  exact hA k i h1
theorem g_run {p : Program} {l : Launch} {e : Env} {R : Room} {s : State} {m : MethodId} {args : Array Value} {below : List Frame} {meth : Method} {cd : Code} {H : Heap} {locs : List Loc} {cells slots : Nat} {Q : State → Prop} {g : wG} {A : Nat → Prop} {z : wZ} {O : wO} {ls : Array Slot} {a : Array Value} {st0 rest : List Value} {pc : Nat} {L : List (Nat × Value)} {post : Option Value → wI → wP → Prop} (hr : va_Run p l e R s m args below meth cd H locs cells slots 0 0 (F0 m pc ls st0) rest (rQ g z O post a) (wA g z)) (hS : va_S A s.heap H locs) (hA : ∀ q, wA g z q → A q) (hl : lv_has ls cd.maxLocals L) (hc : ∀ q ∈ L, q.2.category = 1)
    (kk : ∀ v I' P', post v I' P' → G (p, l, e, R, s, m, args, below, meth, cd, Q, g, A) z I' P' O cells slots (pc + 3) L (v.toList ++ rest)) : W p l e R s m args below meth cd H locs cells slots Q (F0 m pc ls st0) := by
  intro T hT X
  obtain ⟨v, st₀, t, T', L1, h0, X', hL, e1, e2, ⟨⟨v', I', P', hv, hpost, hHd⟩, hz, hk⟩, st⟩ := hr T hT X
  cases hv
  rw [h0] at hz hk
  obtain ⟨t2, a1, b1⟩ := kk v I' P' hpost T'.heap (locs ++ L1) ls (by rw [e1]; exact hHd) ⟨Nat.le_trans hS.1 (by rw [e1]; exact hz), fun q h1 h2 => by
      rw [e1, hk q (Nat.lt_of_lt_of_le h1 hS.1) (fun zz => h2 (hA q zz))]; exact hS.2.1 q h1 h2, fun q hq => by
      rcases List.mem_append.mp hq with h | h
      · exact hS.2.2 q h
      · exact hA _ (hL q h)⟩ hl hc T' rfl X'
  exact ⟨t2, st t2 a1, b1⟩
theorem g_callV (C : Cx K cc own nL ret rm z) {index mxl k i ci N : Nat} {y : MethodName} {bc : ByteArray} {rt : Option FieldType} {rmy : Room} {As S0 : List Value} {fs : List Value} {Cn : String} {T : u_T} {post : Option Value → wI → wP → Prop} (hw : wV own index Cn y bc mxl rt) (hM : RT (Kl K) y bc mxl rt rmy (Kg K) z (.ref ((Kg K).2.2 k i) :: As) I P O post) (d : decode cc pc = .ok (.invokevirtual index, 3)) (hal : wAl z k i) (he : wE (Kg K) (I k i) (P k i) O k i = .inr (ci, fs)) (hc : vwCl[ci]? = some (Cn, T, N))
    (hd : y.cls = Cn ∧ y.cls ≠ "java/lang/invoke/MethodHandle" ∧ y.cls ≠ "java/lang/invoke/VarHandle" ∧ (parseMethodDescriptor y.desc).map (fun d => d.parameters.length) = some As.length) (hroom : (rmy.frames + 1 ≤ rm.frames ∧ 8 + (mxl + 11) + rmy.locals ≤ rm.locals) ∧ rmy.cells = 0 ∧ rmy.slots = 0) (hS0 : S0 = As.reverse ++ .ref ((Kg K).2.2 k i) :: S) (hcat : (S.map fun v => v.category).sum ≤ 8) (hf : c ≤ rm.cells ∧ n ≤ rm.slots) (hp : pc + 3 = pc') (kk : ∀ v I' P', post v I' P' → G K z I' P' O c n pc' L (v.toList ++ S)) : G K z I P O c n pc L S0 := by
  subst hp
  subst hS0
  obtain ⟨p, l, e, R, s, m, args, below, meth, cd, Q, g, A⟩ := K
  obtain ⟨hx, hb, hr, hml, hown, hts, hlk, hK, rfl, hA⟩ := C
  intro H locs ls hH hS hl hcc
  have hP := cl_one (hH.1 k i hal)
  rw [show wE g (I k i) (P k i) O k i = _ from he] at hP
  refine g_run (va_runV (As := As) (rest := S) (nL := nL) ⟨hx, hb, hml, hown, hts⟩ hM (cwV As.length hts (wV_good hw) rfl hroom.2.1 hroom.2.2 hd hroom.1) ⟨wBlind, va_recv hK hP (ci := ci) (q0 := 0) hc rfl, fun U hU hW => ⟨rfl, by rw [hU]; exact hH, va_K.moved hW.alike hK⟩⟩ rfl rfl (hl.1.trans hml) rfl (lv_room hcat) d ⟨hf.1, hf.2⟩) hS (wA_in hA) hl hcc kk
theorem g_callS (C : Cx K cc own nL ret rm z) {index mxl : Nat} {y : MethodName} {bc : ByteArray} {rt : Option FieldType} {rmy : Room} {As S0 : List Value} {post : Option Value → wI → wP → Prop} (hw : wS own index y bc mxl rt) (hM : RT (Kl K) y bc mxl rt rmy (Kg K) z As I P O post) (d : decode cc pc = .ok (.invokestatic index, 3))
    (hd : y.cls = own ∧ y.cls ≠ "java/lang/invoke/MethodHandle" ∧ y.cls ≠ "java/lang/invoke/VarHandle" ∧ (parseMethodDescriptor y.desc).map (fun d => d.parameters.length) = some As.length) (hroom : (rmy.frames + 1 ≤ rm.frames ∧ 8 + (mxl + 11) + rmy.locals ≤ rm.locals) ∧ rmy.cells = 0 ∧ rmy.slots = 0) (hS0 : S0 = As.reverse ++ S) (hcat : (S.map fun v => v.category).sum ≤ 8) (hf : c ≤ rm.cells ∧ n ≤ rm.slots) (hp : pc + 3 = pc') (kk : ∀ v I' P', post v I' P' → G K z I' P' O c n pc' L (v.toList ++ S)) : G K z I P O c n pc L S0 := by
  subst hp
  subst hS0
  obtain ⟨p, l, e, R, s, m, args, below, meth, cd, Q, g, A⟩ := K
  obtain ⟨hx, hb, hr, hml, hown, hts, hlk, hK, rfl, hA⟩ := C
  intro H locs ls hH hS hl hcc
  refine g_run (va_runS (As := As) (rest := S) (nL := nL) ⟨hx, hb, hml, hown, hts⟩ hM (va_cwS As.length hts (wS_good hw) rfl hroom.2.1 hroom.2.2 hd.2 hroom.1) ⟨wBlind, fun U hU hW => ⟨rfl, by rw [hU]; exact hH, va_K.moved hW.alike hK⟩⟩ rfl rfl (hl.1.trans hml) rfl (lv_room hcat) d ⟨hf.1, hf.2⟩) hS (wA_in hA) hl hcc kk

end WRows2
