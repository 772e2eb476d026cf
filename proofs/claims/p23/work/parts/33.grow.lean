section WGrow
def gUp (g : wG) (a b v : Nat) : wG := (g.1, g.2.1, fun k i => if k = a ∧ i = b then v else g.2.2 k i)
def rowI (I : wI) (a b : Nat) (f : Nat → Int32) : wI := fun k i => if k = a ∧ i = b then f else I k i
theorem rowI_at {I : wI} {a b : Nat} {f : Nat → Int32} : rowI I a b f a b = f := if_pos ⟨rfl, rfl⟩
theorem rowI_off {I : wI} {a b k i : Nat} {f : Nat → Int32} (h : ¬ (k = a ∧ i = b)) : rowI I a b f k i = I k i := if_neg h
/-- what points to something points to something that is there -/
def RF (z : wZ) (P : wP) : Prop := (∀ h q, h < z.2 → P 3 h 1 = some q → q < z.1) ∧ (∀ j q, P 4 0 j = some q → q < 4) ∧ (∀ j q, P 6 0 j = some q → q < z.1) ∧ (∀ j q, P 7 0 j = some q → q < z.2) ∧ ∀ i p q, i < 4 → P 9 i p = some q → q < z.1
theorem map_ag {o : Option Nat} {f f' : Nat → Nat} (h : ∀ q, o = some q → f' q = f q) : o.map f' = o.map f := by
  cases o with
  | none => rfl
  | some q => show some (f' q) = some (f q); rw [h q rfl]
theorem wE_ag {g g' : wG} {z : wZ} {f : Nat → Int32} {P : wP} {O : wO} (h1 : g'.1 = g.1) (h2 : g'.2.1 = g.2.1) (ha : ∀ k i, wAl z k i → g'.2.2 k i = g.2.2 k i) (hR : RF z P) : ∀ k i, wAl z k i → wE g' f (P k i) O k i = wE g f (P k i) O k i := by
  obtain ⟨r3, r4, r6, r7, r9⟩ := hR
  intro k i hk
  match k, hk with
  | 0, _ => unfold wE; simp only [ha 4 0 rfl, ha 5 0 rfl, ha 6 0 rfl, ha 7 0 rfl]
  | 1, hk => unfold wE; simp only [ha 8 i hk, ha 9 i hk, ha 10 i hk]
  | 2, _ => rfl
  | 3, hk => unfold wE; simp only [ha 11 i hk, map_ag (o := P 3 i 1) (f' := g'.2.2 2) (f := g.2.2 2) (fun q hq => ha 2 q (r3 i q hk hq))]
  | 4, hk =>
    cases (show i = 0 from hk)
    unfold wE
    simp only [h2, fun j => map_ag (o := P 4 0 j) (f' := g'.2.2 1) (f := g.2.2 1) (fun q hq => ha 1 q (r4 j q hq))]
  | 5, _ => unfold wE; simp only [h2]
  | 6, hk =>
    cases (show i = 0 from hk)
    unfold wE
    simp only [h2, fun j => map_ag (o := P 6 0 j) (f' := g'.2.2 2) (f := g.2.2 2) (fun q hq => ha 2 q (r6 j q hq))]
  | 7, hk =>
    cases (show i = 0 from hk)
    unfold wE
    simp only [h2, fun j => map_ag (o := P 7 0 j) (f' := g'.2.2 3) (f := g.2.2 3) (fun q hq => ha 3 q (r7 j q hq))]
  | 8, _ => unfold wE; simp only [h2]
  | 9, hk => unfold wE; simp only [h2, fun j => map_ag (o := P 9 i j) (f' := g'.2.2 2) (f := g.2.2 2) (fun q hq => ha 2 q (r9 i j q hk hq))]
  | 10, _ => unfold wE; simp only [h2]
  | 11, _ => unfold wE; simp only [h2]
  | 12, hk => exact hk.elim
  | 13, _ => unfold wE; simp only [h2]
  | 14, hk => exact hk.elim
  | _ + 15, hk => exact hk.elim
theorem wHd.lt {g : wG} {z : wZ} {I : wI} {P : wP} {O : wO} {H : Heap} (h : wHd g z I P O H) {k i : Nat} (hk : wAl z k i) : g.2.2 k i < H.size := va_at.lt (h.1 k i hk)
/-- some more things, beside those that were there -/
theorem wHd.grow {g g' : wG} {z z' : wZ} {I I' : wI} {P P' : wP} {O : wO} {H H1 : Heap} (h : wHd g z I P O H) (hR : RF z P) (h1 : g'.1 = g.1) (h2 : g'.2.1 = g.2.1) (ha : ∀ k i, wAl z k i → g'.2.2 k i = g.2.2 k i) (hz : ∀ k i, wAl z' k i → wAl z k i ∨ (H.size ≤ g'.2.2 k i ∧ va_at g.1 vwCl (g'.2.2 k i, wE g' (I' k i) (P' k i) O k i) H1)) (hI : ∀ k i, wAl z k i → I' k i = I k i) (hP : ∀ k i, wAl z k i → P' k i = P k i) (hk : ∀ q : Nat, q < H.size → H1[q]? = H[q]?)
    (hn : ∀ k i k' i', wAl z' k i → wAl z' k' i' → ¬ wAl z k i → ¬ wAl z k' i' → g'.2.2 k i = g'.2.2 k' i' → k = k' ∧ i = i') : wHd g' z' I' P' O H1 := by
  refine ⟨fun k i hki => ?_, fun k i k' i' a b e => ?_⟩
  · rw [h1]
    rcases hz k i hki with hw | ⟨-, hw⟩
    · rw [hI k i hw, hP k i hw, wE_ag h1 h2 ha hR k i hw, ha k i hw]
      exact (h.1 k i hw).kept (hk _ (h.lt hw))
    · exact hw
  · by_cases c1 : wAl z k i
    · by_cases c2 : wAl z k' i'
      · rw [ha k i c1, ha k' i' c2] at e
        exact h.2 k i k' i' c1 c2 e
      · exfalso
        have q1 := h.lt c1
        have q2 := ((hz k' i' b).resolve_left c2).1
        rw [ha k i c1] at e
        omega
    · by_cases c2 : wAl z k' i'
      · exfalso
        have q1 := h.lt c2
        have q2 := ((hz k i a).resolve_left c1).1
        rw [ha k' i' c2] at e
        omega
      · exact hn k i k' i' a b c1 c2 e
theorem wAl_M {z : wZ} {k i : Nat} (h : wAl (z.1 + 1, z.2) k i) : wAl z k i ∨ (k = 2 ∧ i = z.1) := by
  match k, h with
  | 2, h =>
    have h : i < z.1 + 1 := h
    by_cases e : i = z.1
    · exact Or.inr ⟨rfl, e⟩
    · exact Or.inl (show i < z.1 by omega)
  | 0, h | 1, h | 3, h | 4, h | 5, h | 6, h | 7, h | 8, h | 9, h | 10, h | 11, h | 12, h | 13, h | 14, h => exact Or.inl h
  | _ + 15, h => exact h.elim
theorem wAl_H {z : wZ} {k i : Nat} (h : wAl (z.1, z.2 + 1) k i) : wAl z k i ∨ (k = 3 ∧ i = z.2) ∨ (k = 11 ∧ i = z.2) := by
  match k, h with
  | 3, h =>
    have h : i < z.2 + 1 := h
    by_cases e : i = z.2
    · exact Or.inr (Or.inl ⟨rfl, e⟩)
    · exact Or.inl (show i < z.2 by omega)
  | 11, h =>
    have h : i < z.2 + 1 := h
    by_cases e : i = z.2
    · exact Or.inr (Or.inr ⟨rfl, e⟩)
    · exact Or.inl (show i < z.2 by omega)
  | 0, h | 1, h | 2, h | 4, h | 5, h | 6, h | 7, h | 8, h | 9, h | 10, h | 12, h | 13, h | 14, h => exact Or.inl h
  | _ + 15, h => exact h.elim
theorem gUp_M {g : wG} {z : wZ} {v k i : Nat} (h : wAl z k i) : (gUp g 2 z.1 v).2.2 k i = g.2.2 k i := if_neg (fun q => by
  obtain ⟨rfl, rfl⟩ := q
  exact Nat.lt_irrefl _ (show z.1 < z.1 from h))
theorem gUp_H {g : wG} {z : wZ} {v w k i : Nat} (h : wAl z k i) : (gUp (gUp g 3 z.2 v) 11 z.2 w).2.2 k i = g.2.2 k i := by
  show (if k = 11 ∧ i = z.2 then w else if k = 3 ∧ i = z.2 then v else g.2.2 k i) = _
  rw [if_neg (fun q => by obtain ⟨rfl, rfl⟩ := q; exact Nat.lt_irrefl _ (show z.2 < z.2 from h)), if_neg (fun q => by obtain ⟨rfl, rfl⟩ := q; exact Nat.lt_irrefl _ (show z.2 < z.2 from h))]
theorem wHd.addM {g : wG} {z : wZ} {I : wI} {P : wP} {O : wO} {H H1 : Heap} {a : Nat} {f : Nat → Int32} (h : wHd g z I P O H) (hR : RF z P) (hk : ∀ q : Nat, q < H.size → H1[q]? = H[q]?) (ha : H.size ≤ a) (hc : va_at g.1 vwCl (a, .inr (2, [.int (f 0), .int (f 1), .int (f 2), .int (f 3), .int (f 4), .int (f 5), .int (f 6), .int (f 7)])) H1) : wHd (gUp g 2 z.1 a) (z.1 + 1, z.2) (rowI I 2 z.1 f) P O H1 := by
  have hn : ∀ k i, wAl z k i → ¬ (k = 2 ∧ i = z.1) := fun k i hw q => by
    obtain ⟨rfl, rfl⟩ := q
    exact Nat.lt_irrefl _ (show z.1 < z.1 from hw)
  have e : (gUp g 2 z.1 a).2.2 2 z.1 = a := if_pos ⟨rfl, rfl⟩
  refine h.grow hR rfl rfl (fun k i hw => gUp_M hw) (fun k i hw => ?_) (fun k i hw => rowI_off (hn k i hw)) (fun _ _ _ => rfl) hk (fun k i k' i' a1 a2 b1 b2 _ => ?_)
  · rcases wAl_M hw with hw | ⟨rfl, rfl⟩
    · exact Or.inl hw
    · refine Or.inr ⟨by rw [e]; exact ha, ?_⟩
      rw [e, rowI_at]
      exact hc
  · obtain ⟨rfl, rfl⟩ := (wAl_M a1).resolve_left b1
    obtain ⟨rfl, rfl⟩ := (wAl_M a2).resolve_left b2
    exact ⟨rfl, rfl⟩
theorem wHd.addH {g : wG} {z : wZ} {I : wI} {P : wP} {O : wO} {H H1 : Heap} {a b m : Nat} {f f2 : Nat → Int32} (h : wHd g z I P O H) (hR : RF z P) (hm : m < z.1) (hk : ∀ q : Nat, q < H.size → H1[q]? = H[q]?) (ha : H.size ≤ a) (hb : H.size ≤ b) (hab : a ≠ b) (hc : va_at g.1 vwCl (a, .inr (0, [.int (f 0), .ref (g.2.2 2 m), .int (f 2), .ref b, .int (f 4), .int (f 5), .int (f 6), .int (f 7), .int (f 8), .int (f 9)])) H1) (hc2 : va_at g.1 vwCl (b, .inl (g.2.1 0, 4, .inl f2)) H1) : wHd (gUp (gUp g 3 z.2 a) 11 z.2 b) (z.1, z.2 + 1) (rowI (rowI I 3 z.2 f) 11 z.2 f2) (upP P 3 z.2 1 (some m)) O H1 := by
  have hn : ∀ k i, wAl z k i → ¬ (k = 3 ∧ i = z.2) ∧ ¬ (k = 11 ∧ i = z.2) := fun k i hw => ⟨fun q => by
    obtain ⟨rfl, rfl⟩ := q
    exact Nat.lt_irrefl _ (show z.2 < z.2 from hw), fun q => by
    obtain ⟨rfl, rfl⟩ := q
    exact Nat.lt_irrefl _ (show z.2 < z.2 from hw)⟩
  have e3 : (gUp (gUp g 3 z.2 a) 11 z.2 b).2.2 3 z.2 = a := by
    show (if 3 = 11 ∧ z.2 = z.2 then b else if 3 = 3 ∧ z.2 = z.2 then a else g.2.2 3 z.2) = a
    simp
  have e11 : (gUp (gUp g 3 z.2 a) 11 z.2 b).2.2 11 z.2 = b := if_pos ⟨rfl, rfl⟩
  have e2 : (gUp (gUp g 3 z.2 a) 11 z.2 b).2.2 2 m = g.2.2 2 m := gUp_H (show wAl z 2 m from hm)
  refine h.grow hR rfl rfl (fun k i hw => gUp_H hw) (fun k i hw => ?_) (fun k i hw => by rw [rowI_off (hn k i hw).2, rowI_off (hn k i hw).1]) (fun k i hw => upP_off P _ (hn k i hw).1) hk (fun k i k' i' a1 a2 b1 b2 e => ?_)
  · rcases wAl_H hw with hw | ⟨rfl, rfl⟩ | ⟨rfl, rfl⟩
    · exact Or.inl hw
    · refine Or.inr ⟨by rw [e3]; exact ha, ?_⟩
      rw [rowI_off (by omega), rowI_at, e3]
      unfold wE
      rw [upP_at, if_pos ⟨rfl, rfl, rfl⟩, e11]
      show va_at g.1 vwCl (a, .inr (0, [.int (f 0), .ref ((gUp (gUp g 3 z.2 a) 11 z.2 b).2.2 2 m), .int (f 2), .ref b, .int (f 4), .int (f 5), .int (f 6), .int (f 7), .int (f 8), .int (f 9)])) H1
      rw [e2]
      exact hc
    · refine Or.inr ⟨by rw [e11]; exact hb, ?_⟩
      rw [rowI_at, e11]
      exact hc2
  · rcases (wAl_H a1).resolve_left b1 with ⟨rfl, rfl⟩ | ⟨rfl, rfl⟩ <;> rcases (wAl_H a2).resolve_left b2 with ⟨rfl, rfl⟩ | ⟨rfl, rfl⟩
    · exact ⟨rfl, rfl⟩
    · rw [e3, e11] at e; exact absurd e hab
    · rw [e3, e11] at e; exact absurd e.symm hab
    · exact ⟨rfl, rfl⟩
section WGrow2
variable {p : Program} {l : Launch} {e : Env} {R : Room} {s : State} {m : MethodId} {args : Array Value} {below : List Frame} {meth : Method} {cd : Code} {H : Heap} {locs : List Loc} {cells slots : Nat} {Q : State → Prop}
variable {cc : ByteArray} {pc : Nat} {ls : Array Slot} {rest : List Value} {D : va_G} {cl : List vw_C} {tys : List (ClassId × FieldType)}
theorem cl_new (hexec : p.tables.exec = Jvm.exec) (hb : cd.code = cc) {own C : String} {T : u_T} {N ci index : Nat} {Ts : List Cond} (hts : ∀ w ∈ Ts, w.before args s = true) (hin : ∀ w ∈ u_ws C T N, w ∈ Ts) (ty : Nat → FieldType) (hty : ∀ k, k < N → parseFieldDescriptor (T k).2.2.1 = some (ty k)) (hown : s.vm.findClass own = some m.cls) (hcl : (Cond.classLink own index C).before args s = true) (hinst : (Cond.instantiable C N).before args s = true) (hini : (Cond.initialized C).before args s = true) (hK : va_K D cl tys s) (hc : cl[ci]? = some (C, T, N)) {fs : List Value} (hfs : ∀ j, j < N → defaultValue (ty j) = vp_V fs j) (hcells : cells + 1 ≤ R.cells) (hslots : slots + N ≤ R.slots) (hdg : decode cc pc = .ok (.new index, 3))
    (kk : ∀ (H1 : Heap), va_at D cl (H.size, .inr (ci, fs)) H1 → H1.size = H.size + 1 → (∀ q : Nat, q < H.size → H1[q]? = H[q]?) → W p l e R s m args below meth cd H1 locs (cells + 1) (slots + N) Q (F0 m (pc + 3) ls (.ref H.size :: rest))) : W p l e R s m args below meth cd H locs cells slots Q (F0 m pc ls rest) := by
  have hKn := hK.1 ci _ hc
  refine W.newcK hexec hb hown hcl hinst hini rfl hdg hcells hslots hKn.2.1 rfl fun H1 kC hkC e1 z1 o1 => ?_
  exact kk H1 ⟨_, hc, (u_born ty hts hin hKn hkC e1 hty).to hfs⟩ z1 o1
end WGrow2
end WGrow
