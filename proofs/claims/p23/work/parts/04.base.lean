abbrev vwCl : List vw_C := [(RX0, TX0, 10), (RX1, TX1, 5), (RX2, TX2, 8), (RX3, TX3, 7)]
section WBase
abbrev wI : Type := Nat → Nat → Nat → Int32
abbrev wP : Type := Nat → Nat → Nat → Option Nat
abbrev wO : Type := Nat → Int64
/-- where things lie: numbers and slots of the kinds, the rows' kinds, the addresses -/
abbrev wG : Type := va_G × (Nat → ClassId) × (Nat → Nat → Nat)
abbrev wZ : Type := Nat × Nat
def wTy (g : wG) : List (ClassId × FieldType) := [(g.2.1 0, .int), (g.2.1 1, .boolean), (g.2.1 2, .object RX2), (g.2.1 3, .object RX0), (g.2.1 4, .object RX1)]
def wML (i : Nat) : Nat := [64, 64, 64, 64, 64, 14, 3].getD i 0
def wAl (z : wZ) (k i : Nat) : Prop := match k with
  | 0 => i = 0
  | 1 => i < 4
  | 2 => i < z.1
  | 3 => i < z.2
  | 4 => i = 0
  | 5 => i = 0
  | 6 => i = 0
  | 7 => i = 0
  | 8 => i < 4
  | 9 => i < 4
  | 10 => i < 4
  | 11 => i < z.2
  | 13 => 0 < wML i
  | _ => False
def wE (g : wG) (f : Nat → Int32) (q : Nat → Option Nat) (O : wO) (k i : Nat) : va_E := match k with
  | 0 => .inr (3, [.ref (g.2.2 4 0), .ref (g.2.2 5 0), .ref (g.2.2 6 0), .ref (g.2.2 7 0), .int (f 4), .int (f 5), .int (f 6)])
  | 1 => .inr (1, [.int (f 0), .int (f 1), .ref (g.2.2 8 i), .ref (g.2.2 9 i), .ref (g.2.2 10 i)])
  | 2 => .inr (2, [.int (f 0), .int (f 1), .int (f 2), .int (f 3), .int (f 4), .int (f 5), .int (f 6), .int (f 7)])
  | 3 => .inr (0, [.int (f 0), va_rf ((q 1).map (g.2.2 2)), .int (f 2), .ref (g.2.2 11 i), .int (f 4), .int (f 5), .int (f 6), .int (f 7), .int (f 8), .int (f 9)])
  | 4 => .inl (g.2.1 4, 4, .inr (.inr (.inr (.inr (fun j => (q j).map (g.2.2 1))))))
  | 5 => .inl (g.2.1 1, 6, .inl f)
  | 6 => .inl (g.2.1 2, 12, .inr (.inr (.inr (.inr (fun j => (q j).map (g.2.2 2))))))
  | 7 => .inl (g.2.1 3, 24, .inr (.inr (.inr (.inr (fun j => (q j).map (g.2.2 3))))))
  | 8 => .inl (g.2.1 0, 16, .inl f)
  | 9 => .inl (g.2.1 2, 16, .inr (.inr (.inr (.inr (fun j => (q j).map (g.2.2 2))))))
  | 10 => .inl (g.2.1 0, 16, .inl f)
  | 11 => .inl (g.2.1 0, 4, .inl f)
  | 13 => .inl (g.2.1 0, wML i, .inl f)
  | _ => .inl (g.2.1 5, 1, .inr (.inl O))
def wHd (g : wG) (z : wZ) (I : wI) (P : wP) (O : wO) (H : Heap) : Prop := (∀ k i, wAl z k i → va_at g.1 vwCl (g.2.2 k i, wE g (I k i) (P k i) O k i) H) ∧ ∀ k i k' i', wAl z k i → wAl z k' i' → g.2.2 k i = g.2.2 k' i' → k = k' ∧ i = i'
def wA (g : wG) (z : wZ) (q : Nat) : Prop := ∃ k i, wAl z k i ∧ q = g.2.2 k i
def upI (I : wI) (a b j : Nat) (v : Int32) : wI := fun k i => if k = a ∧ i = b then upd (I k i) j v else I k i
def upP (P : wP) (a b j : Nat) (v : Option Nat) : wP := fun k i => if k = a ∧ i = b then va_up (P k i) j v else P k i
theorem upI_at (I : wI) (a b j : Nat) (v : Int32) (k i c : Nat) : upI I a b j v k i c = if k = a ∧ i = b ∧ c = j then v else I k i c := by
  unfold upI upd
  by_cases h1 : k = a ∧ i = b <;> by_cases h2 : c = j <;> simp [h1, h2] <;> (try (intro h3 h4; exact absurd ⟨h3, h4⟩ h1))
theorem upP_at (P : wP) (a b j : Nat) (v : Option Nat) (k i c : Nat) : upP P a b j v k i c = if k = a ∧ i = b ∧ c = j then v else P k i c := by
  unfold upP va_up
  by_cases h1 : k = a ∧ i = b <;> by_cases h2 : c = j <;> simp [h1, h2] <;> (try (intro h3 h4; exact absurd ⟨h3, h4⟩ h1))
theorem upI_row (I : wI) (a b j : Nat) (v : Int32) : upI I a b j v a b = upd (I a b) j v := by unfold upI; simp
theorem upP_row (P : wP) (a b j : Nat) (v : Option Nat) : upP P a b j v a b = va_up (P a b) j v := by unfold upP; simp
theorem upI_off (I : wI) {a b j k i : Nat} (v : Int32) (h : ¬ (k = a ∧ i = b)) : upI I a b j v k i = I k i := by unfold upI; simp [h]
theorem upP_off (P : wP) {a b j k i : Nat} (v : Option Nat) (h : ¬ (k = a ∧ i = b)) : upP P a b j v k i = P k i := by unfold upP; simp [h]
/-- what is written in one place leaves the others -/
theorem wHd.put {g : wG} {z : wZ} {I I' : wI} {P P' : wP} {O O' : wO} {H H1 : Heap} {a b : Nat} (h : wHd g z I P O H) (hab : wAl z a b) (hI : ∀ k i, ¬ (k = a ∧ i = b) → I' k i = I k i) (hP : ∀ k i, ¬ (k = a ∧ i = b) → P' k i = P k i) (hO : ∀ k i, wAl z k i → ¬ (k = a ∧ i = b) → wE g (I k i) (P k i) O' k i = wE g (I k i) (P k i) O k i)
    (he : va_at g.1 vwCl (g.2.2 a b, wE g (I' a b) (P' a b) O' a b) H1) (oq : ∀ q : Nat, q ≠ g.2.2 a b → H1[q]? = H[q]?) : wHd g z I' P' O' H1 := by
  refine ⟨fun k i hk => ?_, h.2⟩
  by_cases hq : k = a ∧ i = b
  · obtain ⟨rfl, rfl⟩ := hq
    exact he
  · rw [hI k i hq, hP k i hq, hO k i hk hq]
    exact (h.1 k i hk).kept (oq _ (fun e => hq (h.2 k i a b hk hab e)))
theorem wE_O {g : wG} {z : wZ} {f : Nat → Int32} {q : Nat → Option Nat} {O O' : wO} {k i : Nat} (hk : wAl z k i) (h : k ≠ 14) : wE g f q O' k i = wE g f q O k i := by
  match k, hk, h with
  | 0, _, _ | 1, _, _ | 2, _, _ | 3, _, _ | 4, _, _ | 5, _, _ | 6, _, _ | 7, _, _ | 8, _, _ | 9, _, _ | 10, _, _ | 11, _, _ | 13, _, _ => rfl
  | 12, hk, _ => exact hk.elim
  | 14, hk, _ => exact hk.elim
  | _ + 15, hk, _ => exact hk.elim
abbrev wK : Type := Program × Launch × Env × Room × State × MethodId × Array Value × List Frame × Method × Code × (State → Prop) × wG × (Nat → Prop)
def lk : List (Nat × Value) → Nat → Option Value
  | [], _ => none
  | q :: t, i => bif Nat.beq q.1 i then some q.2 else lk t i
theorem lk_mem : ∀ {L : List (Nat × Value)} {i : Nat} {v : Value}, lk L i = some v → (i, v) ∈ L
  | [], _, _, h => by cases h
  | (j, u) :: t, i, v, h => by
    unfold lk at h
    cases hb : Nat.beq j i with
    | true =>
      rw [hb] at h
      have e : j = i := Nat.eq_of_beq_eq_true hb
      cases h
      subst e
      exact List.mem_cons_self
    | false =>
      rw [hb] at h
      exact List.mem_cons_of_mem _ (lk_mem h)
def st1 : List (Nat × Value) → Nat → Value → List (Nat × Value)
  | [], i, v => [(i, v)]
  | q :: t, i, v => bif Nat.beq q.1 i then (i, v) :: t.filter (fun q => !(Nat.beq q.1 i)) else q :: st1 t i v
theorem st1_sub : ∀ {L : List (Nat × Value)} {i : Nat} {v : Value} {q : Nat × Value}, q ∈ st1 L i v → q = (i, v) ∨ (q ∈ L ∧ q.1 ≠ i)
  | [], i, v, q, h => Or.inl (List.mem_singleton.mp h)
  | p :: t, i, v, q, h => by
    unfold st1 at h
    cases hb : Nat.beq p.1 i with
    | true =>
      rw [hb] at h
      rcases List.mem_cons.mp (show q ∈ (i, v) :: t.filter (fun q => !(Nat.beq q.1 i)) from h) with h1 | h1
      · exact Or.inl h1
      · obtain ⟨h2, h3⟩ := List.mem_filter.mp h1
        exact Or.inr ⟨List.mem_cons_of_mem _ h2, fun e => by rw [e, Nat.beq_refl] at h3; cases h3⟩
    | false =>
      rw [hb] at h
      rcases List.mem_cons.mp (show q ∈ p :: st1 t i v from h) with h1 | h1
      · refine Or.inr ⟨h1 ▸ List.mem_cons_self, fun e => ?_⟩
        rw [h1] at e
        rw [e, Nat.beq_refl] at hb
        cases hb
      · rcases st1_sub h1 with h2 | ⟨h2, h3⟩
        · exact Or.inl h2
        · exact Or.inr ⟨List.mem_cons_of_mem _ h2, h3⟩
theorem st1_has {ls : Array Slot} {n : Nat} {L : List (Nat × Value)} {i : Nat} {v : Value} (h : lv_has ls n ((i, v) :: L.filter (fun q => !(q.1 == i) && !(q.1 + 1 == i && q.2.category == 2)))) (c1 : ∀ q ∈ L, q.2.category = 1) : lv_has ls n (st1 L i v) := by
  refine ⟨h.1, h.2.1, fun q hq => ?_⟩
  rcases st1_sub hq with e | ⟨hm, hne⟩
  · rw [e]; exact h.2.2 _ List.mem_cons_self
  · exact h.2.2 q (List.mem_cons_of_mem _ (List.mem_filter.mpr ⟨hm, by simp [hne, c1 q hm]⟩))
theorem st1_cat {L : List (Nat × Value)} {i : Nat} {v : Value} (hv : v.category = 1) (c1 : ∀ q ∈ L, q.2.category = 1) : ∀ q ∈ st1 L i v, q.2.category = 1 := fun q hq => by
  rcases st1_sub hq with e | ⟨hm, _⟩
  · rw [e]; exact hv
  · exact c1 q hm
def G : wK → wZ → wI → wP → wO → Nat → Nat → Nat → List (Nat × Value) → List Value → Prop
  | (p, l, e, R, s, m, args, below, meth, cd, Q, g, A), z, I, P, O, c, n, pc, L, S => ∀ (H : Heap) (locs : List Loc) (ls : Array Slot), wHd g z I P O H → va_S A s.heap H locs → lv_has ls cd.maxLocals L → (∀ q ∈ L, q.2.category = 1) → W p l e R s m args below meth cd H locs c n Q (F0 m pc ls S)
def Cx : wK → ByteArray → String → Nat → Option FieldType → Room → wZ → Prop
  | (p, l, e, R, s, m, args, below, meth, cd, Q, g, A), cc, own, nL, ret, rm, z => p.tables.exec = Jvm.exec ∧ cd.code = cc ∧ meth.sig.returnType = ret ∧ cd.maxLocals = nL ∧ s.vm.findClass own = some m.cls ∧ (∀ w ∈ wAll, w.before args s = true) ∧ meth.locks = false ∧ va_K g.1 vwCl (wTy g) s ∧ R = rm ∧ ∀ k i, wAl z k i → A (g.2.2 k i)
abbrev Kg (K : wK) : wG := K.2.2.2.2.2.2.2.2.2.2.2.1
abbrev Kl (K : wK) : Launch := K.2.1
variable {K : wK} {cc : ByteArray} {own : String} {nL : Nat} {ret : Option FieldType} {rm : Room} {z : wZ} {I : wI} {P : wP} {O : wO} {c n pc pc' : Nat} {L : List (Nat × Value)} {S : List Value}

theorem g_iconst (C : Cx K cc own nL ret rm z) {k : Int} {v : Int32} (d : decode cc pc = .ok (.iconst k, 1)) (hv : Int32.ofInt k = v) (hp : pc + 1 = pc') (kk : G K z I P O c n pc' L (.int v :: S)) : G K z I P O c n pc L (S) := by
  subst hp
  obtain ⟨p, l, e, R, s, m, args, below, meth, cd, Q, g, A⟩ := K
  intro H locs ls hH hS hl hc
  exact lv_iconst C.1 C.2.1 d hv (kk H locs ls hH hS hl hc)

theorem g_bipush (C : Cx K cc own nL ret rm z) {k : Int} {v : Int32} (d : decode cc pc = .ok (.bipush k, 2)) (hv : (Int8.ofInt k).toInt32 = v) (hp : pc + 2 = pc') (kk : G K z I P O c n pc' L (.int v :: S)) : G K z I P O c n pc L (S) := by
  subst hp
  obtain ⟨p, l, e, R, s, m, args, below, meth, cd, Q, g, A⟩ := K
  intro H locs ls hH hS hl hc
  exact lv_bipush C.1 C.2.1 d hv (kk H locs ls hH hS hl hc)

theorem g_sipush (C : Cx K cc own nL ret rm z) {k : Int} {v : Int32} (d : decode cc pc = .ok (.sipush k, 3)) (hv : (Int16.ofInt k).toInt32 = v) (hp : pc + 3 = pc') (kk : G K z I P O c n pc' L (.int v :: S)) : G K z I P O c n pc L (S) := by
  subst hp
  obtain ⟨p, l, e, R, s, m, args, below, meth, cd, Q, g, A⟩ := K
  intro H locs ls hH hS hl hc
  exact lv_sipush C.1 C.2.1 d hv (kk H locs ls hH hS hl hc)

theorem g_null (C : Cx K cc own nL ret rm z) (d : decode cc pc = .ok (.aconst_null, 1)) (hp : pc + 1 = pc') (kk : G K z I P O c n pc' L (.null :: S)) : G K z I P O c n pc L (S) := by
  subst hp
  obtain ⟨p, l, e, R, s, m, args, below, meth, cd, Q, g, A⟩ := K
  intro H locs ls hH hS hl hc
  exact lv_null C.1 C.2.1 d (kk H locs ls hH hS hl hc)

theorem g_lconst (C : Cx K cc own nL ret rm z) {k : Fin 2} {v : Int64} (d : decode cc pc = .ok (.lconst k, 1)) (hv : Int64.ofNat (k : Nat) = v) (hp : pc + 1 = pc') (kk : G K z I P O c n pc' L (.long v :: S)) : G K z I P O c n pc L (S) := by
  subst hp
  obtain ⟨p, l, e, R, s, m, args, below, meth, cd, Q, g, A⟩ := K
  intro H locs ls hH hS hl hc
  exact lv_lconst C.1 C.2.1 d hv (kk H locs ls hH hS hl hc)

theorem g_iload_n (C : Cx K cc own nL ret rm z) {k : Fin 4} {x : Int32} (d : decode cc pc = .ok (.iload_n k, 1)) (hL : lk L k.val = some (.int x)) (hp : pc + 1 = pc') (kk : G K z I P O c n pc' L (.int x :: S)) : G K z I P O c n pc L (S) := by
  subst hp
  obtain ⟨p, l, e, R, s, m, args, below, meth, cd, Q, g, A⟩ := K
  intro H locs ls hH hS hl hc
  exact lv_iload_n C.1 C.2.1 d rfl (hl.2.2 _ (lk_mem hL)) (kk H locs ls hH hS hl hc)

theorem g_iload (C : Cx K cc own nL ret rm z) {i : Nat} {x : Int32} (d : decode cc pc = .ok (.iload i, 2)) (hL : lk L i = some (.int x)) (hp : pc + 2 = pc') (kk : G K z I P O c n pc' L (.int x :: S)) : G K z I P O c n pc L (S) := by
  subst hp
  obtain ⟨p, l, e, R, s, m, args, below, meth, cd, Q, g, A⟩ := K
  intro H locs ls hH hS hl hc
  exact lv_iload C.1 C.2.1 d (hl.2.2 _ (lk_mem hL)) (kk H locs ls hH hS hl hc)

theorem g_aload_n (C : Cx K cc own nL ret rm z) {k : Fin 4} {x : Nat} (d : decode cc pc = .ok (.aload_n k, 1)) (hL : lk L k.val = some (.ref x)) (hp : pc + 1 = pc') (kk : G K z I P O c n pc' L (.ref x :: S)) : G K z I P O c n pc L (S) := by
  subst hp
  obtain ⟨p, l, e, R, s, m, args, below, meth, cd, Q, g, A⟩ := K
  intro H locs ls hH hS hl hc
  exact lv_aload_n C.1 C.2.1 d rfl (hl.2.2 _ (lk_mem hL)) (kk H locs ls hH hS hl hc)

theorem g_aload (C : Cx K cc own nL ret rm z) {i x : Nat} (d : decode cc pc = .ok (.aload i, 2)) (hL : lk L i = some (.ref x)) (hp : pc + 2 = pc') (kk : G K z I P O c n pc' L (.ref x :: S)) : G K z I P O c n pc L (S) := by
  subst hp
  obtain ⟨p, l, e, R, s, m, args, below, meth, cd, Q, g, A⟩ := K
  intro H locs ls hH hS hl hc
  exact lv_aload C.1 C.2.1 d (hl.2.2 _ (lk_mem hL)) (kk H locs ls hH hS hl hc)

theorem g_aload_nN (C : Cx K cc own nL ret rm z) {k : Fin 4} (d : decode cc pc = .ok (.aload_n k, 1)) (hL : lk L k.val = some .null) (hp : pc + 1 = pc') (kk : G K z I P O c n pc' L (.null :: S)) : G K z I P O c n pc L (S) := by
  subst hp
  obtain ⟨p, l, e, R, s, m, args, below, meth, cd, Q, g, A⟩ := K
  intro H locs ls hH hS hl hc
  exact lv_aload_nN C.1 C.2.1 d rfl (hl.2.2 _ (lk_mem hL)) (kk H locs ls hH hS hl hc)

theorem g_aloadN (C : Cx K cc own nL ret rm z) {i : Nat} (d : decode cc pc = .ok (.aload i, 2)) (hL : lk L i = some .null) (hp : pc + 2 = pc') (kk : G K z I P O c n pc' L (.null :: S)) : G K z I P O c n pc L (S) := by
  subst hp
  obtain ⟨p, l, e, R, s, m, args, below, meth, cd, Q, g, A⟩ := K
  intro H locs ls hH hS hl hc
  exact lv_aloadN C.1 C.2.1 d (hl.2.2 _ (lk_mem hL)) (kk H locs ls hH hS hl hc)

theorem g_istore_n (C : Cx K cc own nL ret rm z) {k : Fin 4} {x : Int32} (d : decode cc pc = .ok (.istore_n k, 1)) (hn : Nat.blt k.val nL = true) (hp : pc + 1 = pc') (kk : G K z I P O c n pc' (st1 L k.val (.int x)) S) : G K z I P O c n pc L (.int x :: S) := by
  subst hp
  obtain ⟨p, l, e, R, s, m, args, below, meth, cd, Q, g, A⟩ := K
  intro H locs ls hH hS hl hc
  exact lv_istore_n C.1 C.2.1 d rfl hl (by rw [C.2.2.2.1]; exact Nat.le_of_ble_eq_true hn) rfl (fun ls' hl' => kk H locs ls' hH hS (st1_has hl' hc) (st1_cat rfl hc))

theorem g_istore (C : Cx K cc own nL ret rm z) {i : Nat} {x : Int32} (d : decode cc pc = .ok (.istore i, 2)) (hn : Nat.blt i nL = true) (hp : pc + 2 = pc') (kk : G K z I P O c n pc' (st1 L i (.int x)) S) : G K z I P O c n pc L (.int x :: S) := by
  subst hp
  obtain ⟨p, l, e, R, s, m, args, below, meth, cd, Q, g, A⟩ := K
  intro H locs ls hH hS hl hc
  exact lv_istore C.1 C.2.1 d hl (by rw [C.2.2.2.1]; exact Nat.le_of_ble_eq_true hn) rfl (fun ls' hl' => kk H locs ls' hH hS (st1_has hl' hc) (st1_cat rfl hc))

theorem g_astore_n (C : Cx K cc own nL ret rm z) {k : Fin 4} {x : Nat} (d : decode cc pc = .ok (.astore_n k, 1)) (hn : Nat.blt k.val nL = true) (hp : pc + 1 = pc') (kk : G K z I P O c n pc' (st1 L k.val (.ref x)) S) : G K z I P O c n pc L (.ref x :: S) := by
  subst hp
  obtain ⟨p, l, e, R, s, m, args, below, meth, cd, Q, g, A⟩ := K
  intro H locs ls hH hS hl hc
  exact lv_astore_n C.1 C.2.1 d rfl hl (by rw [C.2.2.2.1]; exact Nat.le_of_ble_eq_true hn) rfl (fun ls' hl' => kk H locs ls' hH hS (st1_has hl' hc) (st1_cat rfl hc))

theorem g_astore (C : Cx K cc own nL ret rm z) {i x : Nat} (d : decode cc pc = .ok (.astore i, 2)) (hn : Nat.blt i nL = true) (hp : pc + 2 = pc') (kk : G K z I P O c n pc' (st1 L i (.ref x)) S) : G K z I P O c n pc L (.ref x :: S) := by
  subst hp
  obtain ⟨p, l, e, R, s, m, args, below, meth, cd, Q, g, A⟩ := K
  intro H locs ls hH hS hl hc
  exact lv_astore C.1 C.2.1 d hl (by rw [C.2.2.2.1]; exact Nat.le_of_ble_eq_true hn) rfl (fun ls' hl' => kk H locs ls' hH hS (st1_has hl' hc) (st1_cat rfl hc))

theorem g_astore_nN (C : Cx K cc own nL ret rm z) {k : Fin 4} (d : decode cc pc = .ok (.astore_n k, 1)) (hn : Nat.blt k.val nL = true) (hp : pc + 1 = pc') (kk : G K z I P O c n pc' (st1 L k.val (.null)) S) : G K z I P O c n pc L (.null :: S) := by
  subst hp
  obtain ⟨p, l, e, R, s, m, args, below, meth, cd, Q, g, A⟩ := K
  intro H locs ls hH hS hl hc
  exact lv_astore_nN C.1 C.2.1 d rfl hl (by rw [C.2.2.2.1]; exact Nat.le_of_ble_eq_true hn) rfl (fun ls' hl' => kk H locs ls' hH hS (st1_has hl' hc) (st1_cat rfl hc))

theorem g_astoreN (C : Cx K cc own nL ret rm z) {i : Nat} (d : decode cc pc = .ok (.astore i, 2)) (hn : Nat.blt i nL = true) (hp : pc + 2 = pc') (kk : G K z I P O c n pc' (st1 L i (.null)) S) : G K z I P O c n pc L (.null :: S) := by
  subst hp
  obtain ⟨p, l, e, R, s, m, args, below, meth, cd, Q, g, A⟩ := K
  intro H locs ls hH hS hl hc
  exact lv_astoreN C.1 C.2.1 d hl (by rw [C.2.2.2.1]; exact Nat.le_of_ble_eq_true hn) rfl (fun ls' hl' => kk H locs ls' hH hS (st1_has hl' hc) (st1_cat rfl hc))

theorem g_iinc (C : Cx K cc own nL ret rm z) {i : Nat} {k : Int} {x v : Int32} (d : decode cc pc = .ok (.iinc i k, 3)) (hL : lk L i = some (.int x)) (hv : x + Int32.ofInt k = v) (hn : Nat.blt i nL = true) (hp : pc + 3 = pc') (kk : G K z I P O c n pc' (st1 L i (.int v)) S) : G K z I P O c n pc L S := by
  subst hp
  obtain ⟨p, l, e, R, s, m, args, below, meth, cd, Q, g, A⟩ := K
  intro H locs ls hH hS hl hc
  obtain ⟨j, hj⟩ := List.getElem?_of_mem (lk_mem hL)
  exact lv_iinc C.1 C.2.1 d hl hj hv (by rw [C.2.2.2.1]; exact Nat.le_of_ble_eq_true hn) rfl (fun ls' hl' => kk H locs ls' hH hS (st1_has hl' hc) (st1_cat rfl hc))

theorem g_iadd (C : Cx K cc own nL ret rm z) {x y : Int32} (d : decode cc pc = .ok (.iadd, 1)) (hp : pc + 1 = pc') (kk : G K z I P O c n pc' L (.int (x + y) :: S)) : G K z I P O c n pc L (.int y :: .int x :: S) := by
  subst hp
  obtain ⟨p, l, e, R, s, m, args, below, meth, cd, Q, g, A⟩ := K
  intro H locs ls hH hS hl hc
  exact lv_iadd C.1 C.2.1 d (kk H locs ls hH hS hl hc)

theorem g_isub (C : Cx K cc own nL ret rm z) {x y : Int32} (d : decode cc pc = .ok (.isub, 1)) (hp : pc + 1 = pc') (kk : G K z I P O c n pc' L (.int (x - y) :: S)) : G K z I P O c n pc L (.int y :: .int x :: S) := by
  subst hp
  obtain ⟨p, l, e, R, s, m, args, below, meth, cd, Q, g, A⟩ := K
  intro H locs ls hH hS hl hc
  exact lv_isub C.1 C.2.1 d (kk H locs ls hH hS hl hc)

theorem g_imul (C : Cx K cc own nL ret rm z) {x y : Int32} (d : decode cc pc = .ok (.imul, 1)) (hp : pc + 1 = pc') (kk : G K z I P O c n pc' L (.int (x * y) :: S)) : G K z I P O c n pc L (.int y :: .int x :: S) := by
  subst hp
  obtain ⟨p, l, e, R, s, m, args, below, meth, cd, Q, g, A⟩ := K
  intro H locs ls hH hS hl hc
  exact lv_imul C.1 C.2.1 d (kk H locs ls hH hS hl hc)

theorem g_iand (C : Cx K cc own nL ret rm z) {x y : Int32} (d : decode cc pc = .ok (.iand, 1)) (hp : pc + 1 = pc') (kk : G K z I P O c n pc' L (.int (x &&& y) :: S)) : G K z I P O c n pc L (.int y :: .int x :: S) := by
  subst hp
  obtain ⟨p, l, e, R, s, m, args, below, meth, cd, Q, g, A⟩ := K
  intro H locs ls hH hS hl hc
  exact lv_iand C.1 C.2.1 d (kk H locs ls hH hS hl hc)

theorem g_ior (C : Cx K cc own nL ret rm z) {x y : Int32} (d : decode cc pc = .ok (.ior, 1)) (hp : pc + 1 = pc') (kk : G K z I P O c n pc' L (.int (x ||| y) :: S)) : G K z I P O c n pc L (.int y :: .int x :: S) := by
  subst hp
  obtain ⟨p, l, e, R, s, m, args, below, meth, cd, Q, g, A⟩ := K
  intro H locs ls hH hS hl hc
  exact lv_ior C.1 C.2.1 d (kk H locs ls hH hS hl hc)

theorem g_ishr (C : Cx K cc own nL ret rm z) {x y : Int32} (d : decode cc pc = .ok (.ishr, 1)) (hp : pc + 1 = pc') (kk : G K z I P O c n pc' L (.int (x >>> (y &&& 31)) :: S)) : G K z I P O c n pc L (.int y :: .int x :: S) := by
  subst hp
  obtain ⟨p, l, e, R, s, m, args, below, meth, cd, Q, g, A⟩ := K
  intro H locs ls hH hS hl hc
  exact lv_ishr C.1 C.2.1 d (kk H locs ls hH hS hl hc)

theorem g_idiv (C : Cx K cc own nL ret rm z) {x y : Int32} (d : decode cc pc = .ok (.idiv, 1)) (hy : ¬ y = 0) (hp : pc + 1 = pc') (kk : G K z I P O c n pc' L (.int (x / y) :: S)) : G K z I P O c n pc L (.int y :: .int x :: S) := by
  subst hp
  obtain ⟨p, l, e, R, s, m, args, below, meth, cd, Q, g, A⟩ := K
  intro H locs ls hH hS hl hc
  exact lv_idiv C.1 C.2.1 d hy (kk H locs ls hH hS hl hc)

theorem g_i2l (C : Cx K cc own nL ret rm z) {x : Int32} (d : decode cc pc = .ok (.i2l, 1)) (hp : pc + 1 = pc') (kk : G K z I P O c n pc' L (.long x.toInt64 :: S)) : G K z I P O c n pc L (.int x :: S) := by
  subst hp
  obtain ⟨p, l, e, R, s, m, args, below, meth, cd, Q, g, A⟩ := K
  intro H locs ls hH hS hl hc
  exact lv_i2l C.1 C.2.1 d rfl (kk H locs ls hH hS hl hc)

theorem g_lcmp (C : Cx K cc own nL ret rm z) {x y : Int64} (d : decode cc pc = .ok (.lcmp, 1)) (hp : pc + 1 = pc') (kk : G K z I P O c n pc' L (.int (lg_cmp x y) :: S)) : G K z I P O c n pc L (.long y :: .long x :: S) := by
  subst hp
  obtain ⟨p, l, e, R, s, m, args, below, meth, cd, Q, g, A⟩ := K
  intro H locs ls hH hS hl hc
  exact W.lcmp C.1 C.2.1 d (kk H locs ls hH hS hl hc)

theorem g_dup (C : Cx K cc own nL ret rm z) {v : Value} (d : decode cc pc = .ok (.dup, 1)) (hv : v.category = 1) (hp : pc + 1 = pc') (kk : G K z I P O c n pc' L (v :: v :: S)) : G K z I P O c n pc L (v :: S) := by
  subst hp
  obtain ⟨p, l, e, R, s, m, args, below, meth, cd, Q, g, A⟩ := K
  intro H locs ls hH hS hl hc
  exact lv_dup C.1 C.2.1 d hv (kk H locs ls hH hS hl hc)

theorem g_dup2 (C : Cx K cc own nL ret rm z) {v u : Value} (d : decode cc pc = .ok (.dup2, 1)) (hv : v.category = 1) (hu : u.category = 1) (hp : pc + 1 = pc') (kk : G K z I P O c n pc' L (v :: u :: v :: u :: S)) : G K z I P O c n pc L (v :: u :: S) := by
  subst hp
  obtain ⟨p, l, e, R, s, m, args, below, meth, cd, Q, g, A⟩ := K
  intro H locs ls hH hS hl hc
  exact lv_dup2_11 C.1 C.2.1 d hv hu (kk H locs ls hH hS hl hc)

theorem g_if_eq (C : Cx K cc own nL ret rm z) {x : Int32} {off : Int} {tgt : Nat} (d : decode cc pc = .ok (.ifCond .eq off, 3)) (ht : (pc : Int) + off = (tgt : Int)) (hp : pc + 3 = pc') (kt : x = 0 → G K z I P O c n tgt L S) (kf : ¬ x = 0 → G K z I P O c n pc' L S) : G K z I P O c n pc L (.int x :: S) := by
  subst hp
  obtain ⟨p, l, e, R, s, m, args, below, meth, cd, Q, g, A⟩ := K
  intro H locs ls hH hS hl hc
  exact lv_if_eq C.1 C.2.1 d ht (fun h => kt h H locs ls hH hS hl hc) (fun h => kf h H locs ls hH hS hl hc)

theorem g_if_ne (C : Cx K cc own nL ret rm z) {x : Int32} {off : Int} {tgt : Nat} (d : decode cc pc = .ok (.ifCond .ne off, 3)) (ht : (pc : Int) + off = (tgt : Int)) (hp : pc + 3 = pc') (kt : ¬ x = 0 → G K z I P O c n tgt L S) (kf : x = 0 → G K z I P O c n pc' L S) : G K z I P O c n pc L (.int x :: S) := by
  subst hp
  obtain ⟨p, l, e, R, s, m, args, below, meth, cd, Q, g, A⟩ := K
  intro H locs ls hH hS hl hc
  exact lv_if_ne C.1 C.2.1 d ht (fun h => kt h H locs ls hH hS hl hc) (fun h => kf h H locs ls hH hS hl hc)

theorem g_if_lt (C : Cx K cc own nL ret rm z) {x : Int32} {off : Int} {tgt : Nat} (d : decode cc pc = .ok (.ifCond .lt off, 3)) (ht : (pc : Int) + off = (tgt : Int)) (hp : pc + 3 = pc') (kt : x < 0 → G K z I P O c n tgt L S) (kf : ¬ x < 0 → G K z I P O c n pc' L S) : G K z I P O c n pc L (.int x :: S) := by
  subst hp
  obtain ⟨p, l, e, R, s, m, args, below, meth, cd, Q, g, A⟩ := K
  intro H locs ls hH hS hl hc
  exact lv_if_lt C.1 C.2.1 d ht (fun h => kt h H locs ls hH hS hl hc) (fun h => kf h H locs ls hH hS hl hc)

theorem g_if_ge (C : Cx K cc own nL ret rm z) {x : Int32} {off : Int} {tgt : Nat} (d : decode cc pc = .ok (.ifCond .ge off, 3)) (ht : (pc : Int) + off = (tgt : Int)) (hp : pc + 3 = pc') (kt : 0 ≤ x → G K z I P O c n tgt L S) (kf : ¬ 0 ≤ x → G K z I P O c n pc' L S) : G K z I P O c n pc L (.int x :: S) := by
  subst hp
  obtain ⟨p, l, e, R, s, m, args, below, meth, cd, Q, g, A⟩ := K
  intro H locs ls hH hS hl hc
  exact lv_if_ge C.1 C.2.1 d ht (fun h => kt h H locs ls hH hS hl hc) (fun h => kf h H locs ls hH hS hl hc)

theorem g_if_gt (C : Cx K cc own nL ret rm z) {x : Int32} {off : Int} {tgt : Nat} (d : decode cc pc = .ok (.ifCond .gt off, 3)) (ht : (pc : Int) + off = (tgt : Int)) (hp : pc + 3 = pc') (kt : 0 < x → G K z I P O c n tgt L S) (kf : ¬ 0 < x → G K z I P O c n pc' L S) : G K z I P O c n pc L (.int x :: S) := by
  subst hp
  obtain ⟨p, l, e, R, s, m, args, below, meth, cd, Q, g, A⟩ := K
  intro H locs ls hH hS hl hc
  exact lv_if_gt C.1 C.2.1 d ht (fun h => kt h H locs ls hH hS hl hc) (fun h => kf h H locs ls hH hS hl hc)

theorem g_if_le (C : Cx K cc own nL ret rm z) {x : Int32} {off : Int} {tgt : Nat} (d : decode cc pc = .ok (.ifCond .le off, 3)) (ht : (pc : Int) + off = (tgt : Int)) (hp : pc + 3 = pc') (kt : x ≤ 0 → G K z I P O c n tgt L S) (kf : ¬ x ≤ 0 → G K z I P O c n pc' L S) : G K z I P O c n pc L (.int x :: S) := by
  subst hp
  obtain ⟨p, l, e, R, s, m, args, below, meth, cd, Q, g, A⟩ := K
  intro H locs ls hH hS hl hc
  exact lv_if_le C.1 C.2.1 d ht (fun h => kt h H locs ls hH hS hl hc) (fun h => kf h H locs ls hH hS hl hc)

theorem g_icmp_eq (C : Cx K cc own nL ret rm z) {x y : Int32} {off : Int} {tgt : Nat} (d : decode cc pc = .ok (.if_icmp .eq off, 3)) (ht : (pc : Int) + off = (tgt : Int)) (hp : pc + 3 = pc') (kt : x = y → G K z I P O c n tgt L S) (kf : ¬ x = y → G K z I P O c n pc' L S) : G K z I P O c n pc L (.int y :: .int x :: S) := by
  subst hp
  obtain ⟨p, l, e, R, s, m, args, below, meth, cd, Q, g, A⟩ := K
  intro H locs ls hH hS hl hc
  exact lv_icmp_eq C.1 C.2.1 d ht (fun h => kt h H locs ls hH hS hl hc) (fun h => kf h H locs ls hH hS hl hc)

theorem g_icmp_ne (C : Cx K cc own nL ret rm z) {x y : Int32} {off : Int} {tgt : Nat} (d : decode cc pc = .ok (.if_icmp .ne off, 3)) (ht : (pc : Int) + off = (tgt : Int)) (hp : pc + 3 = pc') (kt : ¬ x = y → G K z I P O c n tgt L S) (kf : x = y → G K z I P O c n pc' L S) : G K z I P O c n pc L (.int y :: .int x :: S) := by
  subst hp
  obtain ⟨p, l, e, R, s, m, args, below, meth, cd, Q, g, A⟩ := K
  intro H locs ls hH hS hl hc
  exact lv_icmp_ne C.1 C.2.1 d ht (fun h => kt h H locs ls hH hS hl hc) (fun h => kf h H locs ls hH hS hl hc)

theorem g_icmp_lt (C : Cx K cc own nL ret rm z) {x y : Int32} {off : Int} {tgt : Nat} (d : decode cc pc = .ok (.if_icmp .lt off, 3)) (ht : (pc : Int) + off = (tgt : Int)) (hp : pc + 3 = pc') (kt : x < y → G K z I P O c n tgt L S) (kf : ¬ x < y → G K z I P O c n pc' L S) : G K z I P O c n pc L (.int y :: .int x :: S) := by
  subst hp
  obtain ⟨p, l, e, R, s, m, args, below, meth, cd, Q, g, A⟩ := K
  intro H locs ls hH hS hl hc
  exact lv_icmp_lt C.1 C.2.1 d ht (fun h => kt h H locs ls hH hS hl hc) (fun h => kf h H locs ls hH hS hl hc)

theorem g_icmp_ge (C : Cx K cc own nL ret rm z) {x y : Int32} {off : Int} {tgt : Nat} (d : decode cc pc = .ok (.if_icmp .ge off, 3)) (ht : (pc : Int) + off = (tgt : Int)) (hp : pc + 3 = pc') (kt : y ≤ x → G K z I P O c n tgt L S) (kf : ¬ y ≤ x → G K z I P O c n pc' L S) : G K z I P O c n pc L (.int y :: .int x :: S) := by
  subst hp
  obtain ⟨p, l, e, R, s, m, args, below, meth, cd, Q, g, A⟩ := K
  intro H locs ls hH hS hl hc
  exact lv_icmp_ge C.1 C.2.1 d ht (fun h => kt h H locs ls hH hS hl hc) (fun h => kf h H locs ls hH hS hl hc)

theorem g_icmp_gt (C : Cx K cc own nL ret rm z) {x y : Int32} {off : Int} {tgt : Nat} (d : decode cc pc = .ok (.if_icmp .gt off, 3)) (ht : (pc : Int) + off = (tgt : Int)) (hp : pc + 3 = pc') (kt : y < x → G K z I P O c n tgt L S) (kf : ¬ y < x → G K z I P O c n pc' L S) : G K z I P O c n pc L (.int y :: .int x :: S) := by
  subst hp
  obtain ⟨p, l, e, R, s, m, args, below, meth, cd, Q, g, A⟩ := K
  intro H locs ls hH hS hl hc
  exact lv_icmp_gt C.1 C.2.1 d ht (fun h => kt h H locs ls hH hS hl hc) (fun h => kf h H locs ls hH hS hl hc)

theorem g_icmp_le (C : Cx K cc own nL ret rm z) {x y : Int32} {off : Int} {tgt : Nat} (d : decode cc pc = .ok (.if_icmp .le off, 3)) (ht : (pc : Int) + off = (tgt : Int)) (hp : pc + 3 = pc') (kt : x ≤ y → G K z I P O c n tgt L S) (kf : ¬ x ≤ y → G K z I P O c n pc' L S) : G K z I P O c n pc L (.int y :: .int x :: S) := by
  subst hp
  obtain ⟨p, l, e, R, s, m, args, below, meth, cd, Q, g, A⟩ := K
  intro H locs ls hH hS hl hc
  exact lv_icmp_le C.1 C.2.1 d ht (fun h => kt h H locs ls hH hS hl hc) (fun h => kf h H locs ls hH hS hl hc)

theorem g_acmp_eq (C : Cx K cc own nL ret rm z) {x y : Option Nat} {off : Int} {tgt : Nat} (d : decode cc pc = .ok (.if_acmp .eq off, 3)) (ht : (pc : Int) + off = (tgt : Int)) (hp : pc + 3 = pc') (kt : x = y → G K z I P O c n tgt L S) (kf : ¬ x = y → G K z I P O c n pc' L S) : G K z I P O c n pc L (va_rf y :: va_rf x :: S) := by
  subst hp
  obtain ⟨p, l, e, R, s, m, args, below, meth, cd, Q, g, A⟩ := K
  intro H locs ls hH hS hl hc
  exact lv_acmp_eq C.1 C.2.1 d ht (fun h => kt h H locs ls hH hS hl hc) (fun h => kf h H locs ls hH hS hl hc)

theorem g_acmp_ne (C : Cx K cc own nL ret rm z) {x y : Option Nat} {off : Int} {tgt : Nat} (d : decode cc pc = .ok (.if_acmp .ne off, 3)) (ht : (pc : Int) + off = (tgt : Int)) (hp : pc + 3 = pc') (kt : ¬ x = y → G K z I P O c n tgt L S) (kf : x = y → G K z I P O c n pc' L S) : G K z I P O c n pc L (va_rf y :: va_rf x :: S) := by
  subst hp
  obtain ⟨p, l, e, R, s, m, args, below, meth, cd, Q, g, A⟩ := K
  intro H locs ls hH hS hl hc
  exact lv_acmp_ne C.1 C.2.1 d ht (fun h => kt h H locs ls hH hS hl hc) (fun h => kf h H locs ls hH hS hl hc)

theorem g_goto (C : Cx K cc own nL ret rm z) {off : Int} {tgt : Nat} (d : decode cc pc = .ok (.goto off, 3)) (ht : (pc : Int) + off = (tgt : Int)) (kk : G K z I P O c n tgt L S) : G K z I P O c n pc L S := by
  obtain ⟨p, l, e, R, s, m, args, below, meth, cd, Q, g, A⟩ := K
  intro H locs ls hH hS hl hc
  exact lv_goto C.1 C.2.1 d ht (kk H locs ls hH hS hl hc)
theorem g_ifnonnull (C : Cx K cc own nL ret rm z) {x : Nat} {off : Int} {tgt : Nat} (d : decode cc pc = .ok (.ifnonnull off, 3)) (ht : (pc : Int) + off = (tgt : Int)) (kk : G K z I P O c n tgt L S) : G K z I P O c n pc L (.ref x :: S) := by
  obtain ⟨p, l, e, R, s, m, args, below, meth, cd, Q, g, A⟩ := K
  intro H locs ls hH hS hl hc
  exact lv_ifnonnull C.1 C.2.1 d ht (kk H locs ls hH hS hl hc)
theorem g_ifnullN (C : Cx K cc own nL ret rm z) {off : Int} {tgt : Nat} (d : decode cc pc = .ok (.ifnull off, 3)) (ht : (pc : Int) + off = (tgt : Int)) (kk : G K z I P O c n tgt L S) : G K z I P O c n pc L (.null :: S) := by
  obtain ⟨p, l, e, R, s, m, args, below, meth, cd, Q, g, A⟩ := K
  intro H locs ls hH hS hl hc
  exact lv_ifnullN C.1 C.2.1 d ht (kk H locs ls hH hS hl hc)
theorem g_ifnull (C : Cx K cc own nL ret rm z) {x : Nat} {off : Int} (d : decode cc pc = .ok (.ifnull off, 3)) (hp : pc + 3 = pc') (kk : G K z I P O c n pc' L S) : G K z I P O c n pc L (.ref x :: S) := by
  subst hp
  obtain ⟨p, l, e, R, s, m, args, below, meth, cd, Q, g, A⟩ := K
  intro H locs ls hH hS hl hc
  exact lv_ifnull C.1 C.2.1 d (kk H locs ls hH hS hl hc)
theorem g_ifnonnullN (C : Cx K cc own nL ret rm z) {off : Int} (d : decode cc pc = .ok (.ifnonnull off, 3)) (hp : pc + 3 = pc') (kk : G K z I P O c n pc' L S) : G K z I P O c n pc L (.null :: S) := by
  subst hp
  obtain ⟨p, l, e, R, s, m, args, below, meth, cd, Q, g, A⟩ := K
  intro H locs ls hH hS hl hc
  exact lv_ifnonnullN C.1 C.2.1 d (kk H locs ls hH hS hl hc)
theorem g_tabOut (C : Cx K cc own nL ret rm z) {dflt lo hi : Int} {offs : Array Int} {len : Nat} {x : Int32} {tgt : Nat} (d : decode cc pc = .ok (.tableswitch dflt lo hi offs, len)) (h : x.toInt < lo ∨ hi < x.toInt) (ht : (pc : Int) + dflt = (tgt : Int)) (kk : G K z I P O c n tgt L S) : G K z I P O c n pc L (.int x :: S) := by
  obtain ⟨p, l, e, R, s, m, args, below, meth, cd, Q, g, A⟩ := K
  intro H locs ls hH hS hl hc
  exact lv_tableOut C.1 C.2.1 d h ht (kk H locs ls hH hS hl hc)
theorem g_tabIn (C : Cx K cc own nL ret rm z) {dflt lo hi : Int} {offs : Array Int} {len : Nat} {x : Int32} {off : Int} {tgt : Nat} (k : Int) (hx : x.toInt = k) (d : decode cc pc = .ok (.tableswitch dflt lo hi offs, len)) (h1 : lo ≤ k) (h2 : k ≤ hi) (ho : offs[(k - lo).toNat]? = some off) (ht : (pc : Int) + off = (tgt : Int)) (kk : G K z I P O c n tgt L S) : G K z I P O c n pc L (.int x :: S) := by
  obtain ⟨p, l, e, R, s, m, args, below, meth, cd, Q, g, A⟩ := K
  intro H locs ls hH hS hl hc
  subst hx
  exact lv_tableIn C.1 C.2.1 d (Int.not_lt.mpr h1) (Int.not_lt.mpr h2) ho ht (kk H locs ls hH hS hl hc)

end WBase
