section WWrap
variable {K : wK} {cc : ByteArray} {own : String} {nL : Nat} {ret : Option FieldType} {rm : Room} {z : wZ} {I : wI} {P : wP} {O : wO} {c n pc pc' : Nat} {L : List (Nat × Value)} {S : List Value}
theorem g_last (C : Cx K cc own nL ret rm z) {x : Int64} (d : decode cc pc = .ok (.lastore, 1)) (hp : pc + 1 = pc') (kk : G K z I P (vp_updL O 0 x) c n pc' L S) : G K z I P O c n pc L (.long x :: .int 0 :: .ref ((Kg K).2.2 14 0) :: S) := by
  subst hp
  obtain ⟨p, l, e, R, s, m, args, below, meth, cd, Q, g, A⟩ := K
  obtain ⟨hx, hb, -, -, hown, hts, -, hK, -, hA⟩ := C
  intro H locs ls hH hS hl hcat
  have hal : wAl z 14 0 := rfl
  have hP : va_at g.1 vwCl (g.2.2 14 0, .inl (g.2.1 5, 1, .inr (.inl O))) H := hH.1 14 0 hal
  refine cl_last hx hb hK 5 hP rfl (by unfold vp_in; decide) d (fun H1 q h1 hz oq => ?_)
  refine kk H1 _ ls (hH.put hal (fun _ _ _ => rfl) (fun _ _ _ => rfl) (fun k i hk hne => wE_O hk (fun e => hne ⟨e, by subst e; exact hk⟩)) h1 oq) (hS.put hz oq (hA 14 0 hal)) hl hcat
theorem g_lald (C : Cx K cc own nL ret rm z) (d : decode cc pc = .ok (.laload, 1)) (hp : pc + 1 = pc') (kk : G K z I P O c n pc' L (.long (O 0) :: S)) : G K z I P O c n pc L (.int 0 :: .ref ((Kg K).2.2 14 0) :: S) := by
  subst hp
  obtain ⟨p, l, e, R, s, m, args, below, meth, cd, Q, g, A⟩ := K
  obtain ⟨hx, hb, -, -, hown, hts, -, hK, -, hA⟩ := C
  intro H locs ls hH hS hl hcat
  have hP : va_P g.1 vwCl [(g.2.2 14 0, .inl (g.2.1 5, 1, .inr (.inl O)))] H := cl_one (hH.1 14 0 rfl)
  exact va_lald hx hb hK hP 0 5 rfl rfl (by unfold vp_in; decide) d (kk H locs ls hH hS hl hcat)
def SX : wK → Nat → Nat → (Nat → Int32) → Prop
  | (p, l, e, R, s, m, args, below, meth, cd, Q, g, A), b, L, xs => va_X b L xs s s.heap ∧ b < s.heap.size ∧ ¬ A b
theorem g_sld (C : Cx K cc own nL ret rm z) {b Ln : Nat} {xs : Nat → Int32} (hX : SX K b Ln xs) {j : Int32} (t : Nat) (hj : j = nI t) (ht : t < Ln) (ht2 : Ln < 5000) (d : decode cc pc = .ok (.iaload, 1)) (hp : pc + 1 = pc') (kk : G K z I P O c n pc' L (.int (xs t) :: S)) : G K z I P O c n pc L (.int j :: .ref b :: S) := by
  subst hp
  subst hj
  obtain ⟨p, l, e, R, s, m, args, below, meth, cd, Q, g, A⟩ := K
  obtain ⟨hx, hb, -, -, hown, hts, -, hK, -, hA⟩ := C
  obtain ⟨h1, h2, h3⟩ := hX
  intro H locs ls hH hS hl hcat
  have kk := kk H locs ls hH hS hl hcat
  rw [← nI_clamp (n := t) (by omega)] at kk
  exact va_sld hx hb h1 h2 h3 hS (vp_in_nI ht (by omega)) d kk
theorem g_slen (C : Cx K cc own nL ret rm z) {b Ln : Nat} {xs : Nat → Int32} (hX : SX K b Ln xs) (d : decode cc pc = .ok (.arraylength, 1)) (hp : pc + 1 = pc') (kk : G K z I P O c n pc' L (.int (nI Ln) :: S)) : G K z I P O c n pc L (.ref b :: S) := by
  subst hp
  obtain ⟨p, l, e, R, s, m, args, below, meth, cd, Q, g, A⟩ := K
  obtain ⟨hx, hb, -, -, hown, hts, -, hK, -, hA⟩ := C
  obtain ⟨h1, h2, h3⟩ := hX
  intro H locs ls hH hS hl hcat
  exact va_slen hx hb h1 h2 h3 hS d (kk H locs ls hH hS hl hcat)
abbrev LW (k : Int32) (g : wG) (z : wZ) (GE : wG → wZ → Prop) (o : Int64) (I : wI) (P : wP) (I1 : wI) (P1 : wP) : wPost := fun v' g' z' I' P' O' => v' = some (.int k) ∧ ((k = 0 ∧ GE g' z' ∧ I' = I1 ∧ P' = P1 ∧ O' 0 = o) ∨ (¬ k = 0 ∧ g' = g ∧ z' = z ∧ I' = I ∧ P' = P))
abbrev gE (g : wG) (z : wZ) : wG → wZ → Prop := fun g' z' => g' = g ∧ z' = z
abbrev gF (g : wG) (z : wZ) (sz : Nat) : wG → wZ → Prop := fun g' z' => (∃ a, wB g z sz a ∧ g' = gUp g 2 z.1 a) ∧ z' = (z.1 + 1, z.2)
abbrev gN (g : wG) (z : wZ) (sz : Nat) : wG → wZ → Prop := fun g' z' => (∃ b c, wB g z sz b ∧ wB g z sz c ∧ g' = gUp (gUp g 3 z.2 b) 11 z.2 c) ∧ z' = (z.1, z.2 + 1)
theorem Rq.ka {K : wK} {g0 : wG} {z0 : wZ} {sz : Nat} {I0 : wI} {P0 : wP} {O0 : wO} {mc ms : Nat} {post : wPost} {xp : String → Prop} (h : Rq K g0 z0 sz I0 P0 O0 mc ms post xp) {q : Nat} (hq : Ka K q) : wB g0 z0 sz q := by
  obtain ⟨p, l, e, R, s, m, args, below, meth, cd, Q, g, A⟩ := K
  obtain ⟨-, rfl, -⟩ := h
  exact hq
set_option maxRecDepth 20000 in
theorem w_interpreter {l : Launch} (hfl : l.stackTraces = false) {g : wG} {z : wZ} {I : wI} {P : wP} {O : wO} {x y w : Int32} (X : XI z I P) (sz : Nat) : XT l yL_interpreter (.codeWith yL_interpreter cL_interpreter 6 (some .int) [(0, 12, 15, 13), (0, 12, 19, 15)]) { frames := 7, cells := 1, slots := 6, locals := 115 } g z sz [.ref (g.2.2 0 0), .int x, .int y, .int w, .ref (g.2.2 14 0)] I P O 1 6 (LW (cK0 x y w) g z (gE g z) ((I 1 x.toNatClampNeg 1).toInt64) I P (cO0 I x y w) (P)) (fun _ => False) := by
  refine XT.ofH (own := RL) rfl (by decide +kernel) hfl (Nat.le_of_ble_eq_true rfl) rfl (fun K C hl hg hR hT => ?_)
  subst hl
  subst hg
  refine g_aload (pc' := 2) C dL_interpreter_0 rfl rfl ?_
  refine g_iconst (v := 0) (pc' := 3) C dL_interpreter_2 (by decide) rfl ?_
  refine g_aload_n (pc' := 4) C dL_interpreter_3 rfl rfl ?_
  refine g_iload_n (pc' := 5) C dL_interpreter_4 rfl rfl ?_
  refine g_iload_n (pc' := 6) C dL_interpreter_5 rfl rfl ?_
  refine g_iload_n (pc' := 7) C dL_interpreter_6 rfl rfl ?_
  refine x_callV (pc' := 10) (mc := 1) (ms := 6) (As := [.int x, .int y, .int w]) (post := fun _ => pX (cK0 x y w) (Kg K) z (some (.int (I 1 x.toNatClampNeg 1))) (cO0 I x y w) (P) O) C hR.k cv_L_7 (fun sz => m_X3_interpreter hfl X sz) dL_interpreter_7 (by first | assumption | exact rfl | exact al13 rfl | exact Nat.le_of_ble_eq_true rfl) rfl rfl ⟨rfl, by decide +kernel, by decide +kernel, (by decide +kernel : (parseMethodDescriptor yX3_interpreter.desc).map (fun d => d.parameters.length) = some 3)⟩ ⟨⟨Nat.le_of_ble_eq_true rfl, Nat.le_of_ble_eq_true rfl⟩, rfl, rfl⟩ rfl (Nat.le_of_ble_eq_true rfl) ⟨Nat.le_of_ble_eq_true rfl, Nat.le_of_ble_eq_true rfl⟩ rfl (fun E hE => ?_) (fun sz' v' g' z' I' P' O' hA' hp => ?_)
  · obtain ⟨j, hj, hk⟩ := hE
    simp only [List.mem_cons, List.not_mem_nil, or_false, Prod.mk.injEq] at hj
    rcases hj with ⟨rfl, rfl⟩ | ⟨rfl, rfl⟩
    · refine x_catch C hR.k hT [] ⟨0, 12, 15, 13⟩ [⟨0, 12, 19, 15⟩] rfl (fun y hy => by cases hy) rfl (by decide) lkI (List.mem_of_getElem? (i := 0) rfl) (fun q => ?_)
      refine g_astore (pc' := 17) C dL_interpreter_15 rfl rfl ?_
      refine g_iconst (v := 1) (pc' := 18) C dL_interpreter_17 (by decide) rfl ?_
      exact x_iret C hR dL_interpreter_18 (Nat.le_of_ble_eq_true rfl) (Nat.le_of_ble_eq_true rfl) ⟨by rw [hk], Or.inr ⟨by rw [hk]; decide, rfl, rfl, rfl, rfl⟩⟩
    · refine x_catch C hR.k hT [⟨0, 12, 15, 13⟩] ⟨0, 12, 19, 15⟩ [] rfl (fun y hy => by
          simp only [List.mem_cons, List.not_mem_nil, or_false] at hy
          subst hy
          exact ⟨by decide, tI, lkI, List.mem_of_getElem? (i := 0) rfl⟩) rfl (by decide) lkA (List.mem_of_getElem? (i := 1) rfl) (fun q => ?_)
      refine g_astore (pc' := 21) C dL_interpreter_19 rfl rfl ?_
      refine g_iconst (v := 2) (pc' := 22) C dL_interpreter_21 (by decide) rfl ?_
      exact x_iret C hR dL_interpreter_22 (Nat.le_of_ble_eq_true rfl) (Nat.le_of_ble_eq_true rfl) ⟨by rw [hk], Or.inr ⟨by rw [hk]; decide, rfl, rfl, rfl, rfl⟩⟩
  · obtain ⟨hk, rfl, rfl, rfl, rfl, rfl, rfl⟩ := hp
    rw [Kw_self]
    refine g_i2l (pc' := 11) C dL_interpreter_10 rfl ?_
    refine g_last (pc' := 12) C dL_interpreter_11 rfl ?_
    refine g_goto (tgt := 23) C dL_interpreter_12 (by decide) ?_
    refine g_iconst (v := 0) (pc' := 24) C dL_interpreter_23 (by decide) rfl ?_
    exact x_iret C hR dL_interpreter_24 (Nat.le_of_ble_eq_true rfl) (Nat.le_of_ble_eq_true rfl) ⟨by rw [hk], Or.inl ⟨hk, ⟨rfl, rfl⟩, rfl, rfl, rfl⟩⟩
set_option maxRecDepth 20000 in
theorem w_waive {l : Launch} (hfl : l.stackTraces = false) {g : wG} {z : wZ} {I : wI} {P : wP} {O : wO} {x y : Int32} (hy : vp_nar .boolean y = y) (h01 : ∀ j, j < 6 → I 5 0 j = 0 ∨ I 5 0 j = 1) (sz : Nat) : XT l yL_waive (.codeWith yL_waive cL_waive 5 (some .int) [(0, 17, 20, 13)]) { frames := 7, cells := 1, slots := 6, locals := 113 } g z sz [.ref (g.2.2 0 0), .int x, .int y, .ref (g.2.2 14 0)] I P O 1 6 (LW (cK1 x) g z (gE g z) ((if I 5 0 x.toNatClampNeg = 0 then 0 else 1)) I P (upI I 5 0 x.toNatClampNeg y) (P)) (fun _ => False) := by
  refine XT.ofH (own := RL) rfl (by decide +kernel) hfl (Nat.le_of_ble_eq_true rfl) rfl (fun K C hl hg hR hT => ?_)
  subst hl
  subst hg
  refine g_aload_n (pc' := 1) C dL_waive_0 rfl rfl ?_
  refine g_iconst (v := 0) (pc' := 2) C dL_waive_1 (by decide) rfl ?_
  refine g_aload_n (pc' := 3) C dL_waive_2 rfl rfl ?_
  refine g_iload_n (pc' := 4) C dL_waive_3 rfl rfl ?_
  refine g_iload_n (pc' := 5) C dL_waive_4 rfl rfl ?_
  refine x_callV (pc' := 8) (mc := 1) (ms := 6) (As := [.int x, .int y]) (post := fun _ => pX (cK1 x) (Kg K) z (some (.int (I 5 0 x.toNatClampNeg))) (upI I 5 0 x.toNatClampNeg y) (P) O) C hR.k cv_L_17 (fun sz => m_X3_waive hfl hy h01 sz) dL_waive_5 (by first | assumption | exact rfl | exact al13 rfl | exact Nat.le_of_ble_eq_true rfl) rfl rfl ⟨rfl, by decide +kernel, by decide +kernel, (by decide +kernel : (parseMethodDescriptor yX3_waive.desc).map (fun d => d.parameters.length) = some 2)⟩ ⟨⟨Nat.le_of_ble_eq_true rfl, Nat.le_of_ble_eq_true rfl⟩, rfl, rfl⟩ rfl (Nat.le_of_ble_eq_true rfl) ⟨Nat.le_of_ble_eq_true rfl, Nat.le_of_ble_eq_true rfl⟩ rfl (fun E hE => ?_) (fun sz' v' g' z' I' P' O' hA' hp => ?_)
  · obtain ⟨j, hj, hk⟩ := hE
    simp only [List.mem_cons, List.not_mem_nil, or_false, Prod.mk.injEq] at hj
    obtain ⟨rfl, rfl⟩ := hj
    refine x_catch C hR.k hT [] ⟨0, 17, 20, 13⟩ [] rfl (fun y hy => by cases hy) rfl (by decide) lkI (List.mem_of_getElem? (i := 0) rfl) (fun q => ?_)
    refine g_astore (pc' := 22) C dL_waive_20 rfl rfl ?_
    refine g_iconst (v := 1) (pc' := 23) C dL_waive_22 (by decide) rfl ?_
    exact x_iret C hR dL_waive_23 (Nat.le_of_ble_eq_true rfl) (Nat.le_of_ble_eq_true rfl) ⟨by rw [hk], Or.inr ⟨by rw [hk]; decide, rfl, rfl, rfl, rfl⟩⟩
  · obtain ⟨hk, rfl, rfl, rfl, rfl, rfl, rfl⟩ := hp
    rw [Kw_self]
    refine g_if_eq (tgt := 15) (pc' := 11) C dL_waive_8 (by decide) rfl (fun hb => ?_) (fun hb => ?_)
    · refine g_lconst (v := 0) (pc' := 16) C dL_waive_15 (by decide) rfl ?_
      refine g_last (pc' := 17) C dL_waive_16 rfl ?_
      refine g_goto (tgt := 24) C dL_waive_17 (by decide) ?_
      refine g_iconst (v := 0) (pc' := 25) C dL_waive_24 (by decide) rfl ?_
      exact x_iret C hR dL_waive_25 (Nat.le_of_ble_eq_true rfl) (Nat.le_of_ble_eq_true rfl) ⟨by rw [hk], Or.inl ⟨hk, ⟨rfl, rfl⟩, rfl, rfl, by rw [if_pos hb]; rfl⟩⟩
    · refine g_lconst (v := 1) (pc' := 12) C dL_waive_11 (by decide) rfl ?_
      refine g_goto (tgt := 16) C dL_waive_12 (by decide) ?_
      refine g_last (pc' := 17) C dL_waive_16 rfl ?_
      refine g_goto (tgt := 24) C dL_waive_17 (by decide) ?_
      refine g_iconst (v := 0) (pc' := 25) C dL_waive_24 (by decide) rfl ?_
      exact x_iret C hR dL_waive_25 (Nat.le_of_ble_eq_true rfl) (Nat.le_of_ble_eq_true rfl) ⟨by rw [hk], Or.inl ⟨hk, ⟨rfl, rfl⟩, rfl, rfl, by rw [if_neg hb]; rfl⟩⟩
set_option maxRecDepth 20000 in
theorem w_file {l : Launch} (hfl : l.stackTraces = false) {g : wG} {z : wZ} {I : wI} {P : wP} {O : wO} {x y w v : Int32} (X : XI z I P) (hRF : RF z P) (sz : Nat) : XT l yL_file (.codeWith yL_file cL_file 7 (some .int) [(0, 14, 17, 13), (0, 14, 21, 15), (0, 14, 25, 25)]) { frames := 7, cells := 1, slots := 8, locals := 115 } g z sz [.ref (g.2.2 0 0), .int x, .int y, .int w, .int v, .ref (g.2.2 14 0)] I P O 1 8 (LW (cK2 I x y w v) g z (gF g z sz) ((nI z.1).toInt64) I P (cO2 I z.1 x y w v) (upP P 6 0 z.1 (some z.1))) (fun _ => False) := by
  refine XT.ofH (own := RL) rfl (by decide +kernel) hfl (Nat.le_of_ble_eq_true rfl) rfl (fun K C hl hg hR hT => ?_)
  subst hl
  subst hg
  refine g_aload (pc' := 2) C dL_file_0 rfl rfl ?_
  refine g_iconst (v := 0) (pc' := 3) C dL_file_2 (by decide) rfl ?_
  refine g_aload_n (pc' := 4) C dL_file_3 rfl rfl ?_
  refine g_iload_n (pc' := 5) C dL_file_4 rfl rfl ?_
  refine g_iload_n (pc' := 6) C dL_file_5 rfl rfl ?_
  refine g_iload_n (pc' := 7) C dL_file_6 rfl rfl ?_
  refine g_iload (pc' := 9) C dL_file_7 rfl rfl ?_
  refine x_callV (pc' := 12) (mc := 1) (ms := 8) (As := [.int x, .int y, .int w, .int v]) (post := fun sz => pF (cK2 I x y w v) (Kg K) z sz (cO2 I z.1 x y w v) (upP P 6 0 z.1 (some z.1)) O) C hR.k cv_L_21 (fun sz => m_X3_file hfl X hRF sz) dL_file_9 (by first | assumption | exact rfl | exact al13 rfl | exact Nat.le_of_ble_eq_true rfl) rfl rfl ⟨rfl, by decide +kernel, by decide +kernel, (by decide +kernel : (parseMethodDescriptor yX3_file.desc).map (fun d => d.parameters.length) = some 4)⟩ ⟨⟨Nat.le_of_ble_eq_true rfl, Nat.le_of_ble_eq_true rfl⟩, rfl, rfl⟩ rfl (Nat.le_of_ble_eq_true rfl) ⟨Nat.le_of_ble_eq_true rfl, Nat.le_of_ble_eq_true rfl⟩ rfl (fun E hE => ?_) (fun sz' v' g' z' I' P' O' hA' hp => ?_)
  · obtain ⟨j, hj, hk⟩ := hE
    simp only [List.mem_cons, List.not_mem_nil, or_false, Prod.mk.injEq] at hj
    rcases hj with ⟨rfl, rfl⟩ | ⟨rfl, rfl⟩ | ⟨rfl, rfl⟩
    · refine x_catch C hR.k hT [] ⟨0, 14, 17, 13⟩ [⟨0, 14, 21, 15⟩, ⟨0, 14, 25, 25⟩] rfl (fun y hy => by cases hy) rfl (by decide) lkI (List.mem_of_getElem? (i := 0) rfl) (fun q => ?_)
      refine g_astore (pc' := 19) C dL_file_17 rfl rfl ?_
      refine g_iconst (v := 1) (pc' := 20) C dL_file_19 (by decide) rfl ?_
      exact x_iret C hR dL_file_20 (Nat.le_of_ble_eq_true rfl) (Nat.le_of_ble_eq_true rfl) ⟨by rw [hk], Or.inr ⟨by rw [hk]; decide, rfl, rfl, rfl, rfl⟩⟩
    · refine x_catch C hR.k hT [⟨0, 14, 17, 13⟩] ⟨0, 14, 21, 15⟩ [⟨0, 14, 25, 25⟩] rfl (fun y hy => by
          simp only [List.mem_cons, List.not_mem_nil, or_false] at hy
          subst hy
          exact ⟨by decide, tI, lkI, List.mem_of_getElem? (i := 0) rfl⟩) rfl (by decide) lkA (List.mem_of_getElem? (i := 1) rfl) (fun q => ?_)
      refine g_astore (pc' := 23) C dL_file_21 rfl rfl ?_
      refine g_iconst (v := 2) (pc' := 24) C dL_file_23 (by decide) rfl ?_
      exact x_iret C hR dL_file_24 (Nat.le_of_ble_eq_true rfl) (Nat.le_of_ble_eq_true rfl) ⟨by rw [hk], Or.inr ⟨by rw [hk]; decide, rfl, rfl, rfl, rfl⟩⟩
    · refine x_catch C hR.k hT [⟨0, 14, 17, 13⟩, ⟨0, 14, 21, 15⟩] ⟨0, 14, 25, 25⟩ [] rfl (fun y hy => by
          simp only [List.mem_cons, List.not_mem_nil, or_false] at hy
          rcases hy with rfl | rfl
          · exact ⟨by decide, tI, lkI, List.mem_of_getElem? (i := 1) rfl⟩
          · exact ⟨by decide, tA, lkA, List.mem_of_getElem? (i := 2) rfl⟩) rfl (by decide) lkS (List.mem_of_getElem? (i := 2) rfl) (fun q => ?_)
      refine g_astore (pc' := 27) C dL_file_25 rfl rfl ?_
      refine g_iconst (v := 3) (pc' := 28) C dL_file_27 (by decide) rfl ?_
      exact x_iret C hR dL_file_28 (Nat.le_of_ble_eq_true rfl) (Nat.le_of_ble_eq_true rfl) ⟨by rw [hk], Or.inr ⟨by rw [hk]; decide, rfl, rfl, rfl, rfl⟩⟩
  · obtain ⟨hk, rfl, ⟨a, ha, rfl⟩, rfl, rfl, rfl, rfl⟩ := hp
    have ha2 := hA' a ha
    have C' : Cx (Kw K (gUp (Kg K) 2 z.1 a)) cL_file RL 7 (some .int) _ (z.1 + 1, z.2) := C.up rfl rfl (fun k i hw => by
      rcases wAl_M hw with hw | ⟨rfl, rfl⟩
      · rw [gUp_M hw]; exact Cx.al C hw
      · rw [show (gUp (Kg K) 2 z.1 a).2.2 2 z.1 = a from if_pos ⟨rfl, rfl⟩]; exact ha2)
    have hR' := hR.up (gUp (Kg K) 2 z.1 a)
    refine g_i2l (K := Kw K (gUp (Kg K) 2 z.1 a)) (pc' := 13) C' dL_file_12 rfl ?_
    refine g_last (K := Kw K (gUp (Kg K) 2 z.1 a)) (pc' := 14) C' dL_file_13 rfl ?_
    refine g_goto (tgt := 29) C' dL_file_14 (by decide) ?_
    refine g_iconst (v := 0) (pc' := 30) C' dL_file_29 (by decide) rfl ?_
    exact x_iret C' hR' dL_file_30 (Nat.le_of_ble_eq_true rfl) (Nat.le_of_ble_eq_true rfl) ⟨by rw [hk], Or.inl ⟨hk, ⟨⟨a, hR.ka ha2, rfl⟩, rfl⟩, rfl, rfl, rfl⟩⟩
set_option maxRecDepth 20000 in
theorem w_pay {l : Launch} (hfl : l.stackTraces = false) {g : wG} {z : wZ} {I : wI} {P : wP} {O : wO} {x y : Int32} (X : XI z I P) (sz : Nat) : XT l yL_pay (.codeWith yL_pay cL_pay 5 (some .int) [(0, 10, 13, 13), (0, 10, 17, 15)]) { frames := 7, cells := 1, slots := 6, locals := 113 } g z sz [.ref (g.2.2 0 0), .int x, .int y, .ref (g.2.2 14 0)] I P O 1 6 (LW (cK3 z.1 x y) g z (gE g z) ((I 2 x.toNatClampNeg 6 + y).toInt64) I P (upI I 2 x.toNatClampNeg 6 (I 2 x.toNatClampNeg 6 + y)) (P)) (fun _ => False) := by
  refine XT.ofH (own := RL) rfl (by decide +kernel) hfl (Nat.le_of_ble_eq_true rfl) rfl (fun K C hl hg hR hT => ?_)
  subst hl
  subst hg
  refine g_aload_n (pc' := 1) C dL_pay_0 rfl rfl ?_
  refine g_iconst (v := 0) (pc' := 2) C dL_pay_1 (by decide) rfl ?_
  refine g_aload_n (pc' := 3) C dL_pay_2 rfl rfl ?_
  refine g_iload_n (pc' := 4) C dL_pay_3 rfl rfl ?_
  refine g_iload_n (pc' := 5) C dL_pay_4 rfl rfl ?_
  refine x_callV (pc' := 8) (mc := 1) (ms := 6) (As := [.int x, .int y]) (post := fun _ => pX (cK3 z.1 x y) (Kg K) z (some (.int (I 2 x.toNatClampNeg 6 + y))) (upI I 2 x.toNatClampNeg 6 (I 2 x.toNatClampNeg 6 + y)) (P) O) C hR.k cv_L_27 (fun sz => m_X3_pay hfl X sz) dL_pay_5 (by first | assumption | exact rfl | exact al13 rfl | exact Nat.le_of_ble_eq_true rfl) rfl rfl ⟨rfl, by decide +kernel, by decide +kernel, (by decide +kernel : (parseMethodDescriptor yX3_pay.desc).map (fun d => d.parameters.length) = some 2)⟩ ⟨⟨Nat.le_of_ble_eq_true rfl, Nat.le_of_ble_eq_true rfl⟩, rfl, rfl⟩ rfl (Nat.le_of_ble_eq_true rfl) ⟨Nat.le_of_ble_eq_true rfl, Nat.le_of_ble_eq_true rfl⟩ rfl (fun E hE => ?_) (fun sz' v' g' z' I' P' O' hA' hp => ?_)
  · obtain ⟨j, hj, hk⟩ := hE
    simp only [List.mem_cons, List.not_mem_nil, or_false, Prod.mk.injEq] at hj
    rcases hj with ⟨rfl, rfl⟩ | ⟨rfl, rfl⟩
    · refine x_catch C hR.k hT [] ⟨0, 10, 13, 13⟩ [⟨0, 10, 17, 15⟩] rfl (fun y hy => by cases hy) rfl (by decide) lkI (List.mem_of_getElem? (i := 0) rfl) (fun q => ?_)
      refine g_astore (pc' := 15) C dL_pay_13 rfl rfl ?_
      refine g_iconst (v := 1) (pc' := 16) C dL_pay_15 (by decide) rfl ?_
      exact x_iret C hR dL_pay_16 (Nat.le_of_ble_eq_true rfl) (Nat.le_of_ble_eq_true rfl) ⟨by rw [hk], Or.inr ⟨by rw [hk]; decide, rfl, rfl, rfl, rfl⟩⟩
    · refine x_catch C hR.k hT [⟨0, 10, 13, 13⟩] ⟨0, 10, 17, 15⟩ [] rfl (fun y hy => by
          simp only [List.mem_cons, List.not_mem_nil, or_false] at hy
          subst hy
          exact ⟨by decide, tI, lkI, List.mem_of_getElem? (i := 0) rfl⟩) rfl (by decide) lkA (List.mem_of_getElem? (i := 1) rfl) (fun q => ?_)
      refine g_astore (pc' := 19) C dL_pay_17 rfl rfl ?_
      refine g_iconst (v := 2) (pc' := 20) C dL_pay_19 (by decide) rfl ?_
      exact x_iret C hR dL_pay_20 (Nat.le_of_ble_eq_true rfl) (Nat.le_of_ble_eq_true rfl) ⟨by rw [hk], Or.inr ⟨by rw [hk]; decide, rfl, rfl, rfl, rfl⟩⟩
  · obtain ⟨hk, rfl, rfl, rfl, rfl, rfl, rfl⟩ := hp
    rw [Kw_self]
    refine g_i2l (pc' := 9) C dL_pay_8 rfl ?_
    refine g_last (pc' := 10) C dL_pay_9 rfl ?_
    refine g_goto (tgt := 21) C dL_pay_10 (by decide) ?_
    refine g_iconst (v := 0) (pc' := 22) C dL_pay_21 (by decide) rfl ?_
    exact x_iret C hR dL_pay_22 (Nat.le_of_ble_eq_true rfl) (Nat.le_of_ble_eq_true rfl) ⟨by rw [hk], Or.inl ⟨hk, ⟨rfl, rfl⟩, rfl, rfl, rfl⟩⟩
set_option maxRecDepth 20000 in
theorem w_decide {l : Launch} (hfl : l.stackTraces = false) {g : wG} {z : wZ} {I : wI} {P : wP} {O : wO} {x : Int32} (X : XI z I P) (sz : Nat) : XT l yL_decide (.codeWith yL_decide cL_decide 4 (some .int) [(0, 9, 12, 13), (0, 9, 15, 25)]) { frames := 7, cells := 1, slots := 6, locals := 113 } g z sz [.ref (g.2.2 0 0), .int x, .ref (g.2.2 14 0)] I P O 1 6 (LW (cKs I z.1 x 1) g z (gE g z) (((cO4 I P z x).2.2).toInt64) I P ((cO4 I P z x).1) ((cO4 I P z x).2.1)) (fun _ => False) := by
  refine XT.ofH (own := RL) rfl (by decide +kernel) hfl (Nat.le_of_ble_eq_true rfl) rfl (fun K C hl hg hR hT => ?_)
  subst hl
  subst hg
  refine g_aload_n (pc' := 1) C dL_decide_0 rfl rfl ?_
  refine g_iconst (v := 0) (pc' := 2) C dL_decide_1 (by decide) rfl ?_
  refine g_aload_n (pc' := 3) C dL_decide_2 rfl rfl ?_
  refine g_iload_n (pc' := 4) C dL_decide_3 rfl rfl ?_
  refine x_callV (pc' := 7) (mc := 1) (ms := 6) (As := [.int x]) (post := fun _ => pX (cKs I z.1 x 1) (Kg K) z (some (.int ((cO4 I P z x).2.2))) ((cO4 I P z x).1) ((cO4 I P z x).2.1) O) C hR.k cv_L_31 (fun sz => m_X3_decide hfl X sz) dL_decide_4 (by first | assumption | exact rfl | exact al13 rfl | exact Nat.le_of_ble_eq_true rfl) rfl rfl ⟨rfl, by decide +kernel, by decide +kernel, (by decide +kernel : (parseMethodDescriptor yX3_decide.desc).map (fun d => d.parameters.length) = some 1)⟩ ⟨⟨Nat.le_of_ble_eq_true rfl, Nat.le_of_ble_eq_true rfl⟩, rfl, rfl⟩ rfl (Nat.le_of_ble_eq_true rfl) ⟨Nat.le_of_ble_eq_true rfl, Nat.le_of_ble_eq_true rfl⟩ rfl (fun E hE => ?_) (fun sz' v' g' z' I' P' O' hA' hp => ?_)
  · obtain ⟨j, hj, hk⟩ := hE
    simp only [List.mem_cons, List.not_mem_nil, or_false, Prod.mk.injEq] at hj
    rcases hj with ⟨rfl, rfl⟩ | ⟨rfl, rfl⟩
    · refine x_catch C hR.k hT [] ⟨0, 9, 12, 13⟩ [⟨0, 9, 15, 25⟩] rfl (fun y hy => by cases hy) rfl (by decide) lkI (List.mem_of_getElem? (i := 0) rfl) (fun q => ?_)
      refine g_astore_n (pc' := 13) C dL_decide_12 rfl rfl ?_
      refine g_iconst (v := 1) (pc' := 14) C dL_decide_13 (by decide) rfl ?_
      exact x_iret C hR dL_decide_14 (Nat.le_of_ble_eq_true rfl) (Nat.le_of_ble_eq_true rfl) ⟨by rw [hk], Or.inr ⟨by rw [hk]; decide, rfl, rfl, rfl, rfl⟩⟩
    · refine x_catch C hR.k hT [⟨0, 9, 12, 13⟩] ⟨0, 9, 15, 25⟩ [] rfl (fun y hy => by
          simp only [List.mem_cons, List.not_mem_nil, or_false] at hy
          subst hy
          exact ⟨by decide, tI, lkI, List.mem_of_getElem? (i := 1) rfl⟩) rfl (by decide) lkS (List.mem_of_getElem? (i := 2) rfl) (fun q => ?_)
      refine g_astore_n (pc' := 16) C dL_decide_15 rfl rfl ?_
      refine g_iconst (v := 2) (pc' := 17) C dL_decide_16 (by decide) rfl ?_
      exact x_iret C hR dL_decide_17 (Nat.le_of_ble_eq_true rfl) (Nat.le_of_ble_eq_true rfl) ⟨by rw [hk], Or.inr ⟨by rw [hk]; decide, rfl, rfl, rfl, rfl⟩⟩
  · obtain ⟨hk, rfl, rfl, rfl, rfl, rfl, rfl⟩ := hp
    rw [Kw_self]
    refine g_i2l (pc' := 8) C dL_decide_7 rfl ?_
    refine g_last (pc' := 9) C dL_decide_8 rfl ?_
    refine g_goto (tgt := 18) C dL_decide_9 (by decide) ?_
    refine g_iconst (v := 0) (pc' := 19) C dL_decide_18 (by decide) rfl ?_
    exact x_iret C hR dL_decide_19 (Nat.le_of_ble_eq_true rfl) (Nat.le_of_ble_eq_true rfl) ⟨by rw [hk], Or.inl ⟨hk, ⟨rfl, rfl⟩, rfl, rfl, rfl⟩⟩
set_option maxRecDepth 20000 in
theorem w_appeal {l : Launch} (hfl : l.stackTraces = false) {g : wG} {z : wZ} {I : wI} {P : wP} {O : wO} {x : Int32} (X : XI z I P) (sz : Nat) : XT l yL_appeal (.codeWith yL_appeal cL_appeal 4 (some .int) [(0, 9, 12, 13), (0, 9, 15, 25)]) { frames := 7, cells := 1, slots := 6, locals := 112 } g z sz [.ref (g.2.2 0 0), .int x, .ref (g.2.2 14 0)] I P O 1 6 (LW (cK5 I z.1 x) g z (gE g z) ((I 2 x.toNatClampNeg 6 - ff I x.toNatClampNeg 80).toInt64) I P (cO5 I x) (P)) (fun _ => False) := by
  refine XT.ofH (own := RL) rfl (by decide +kernel) hfl (Nat.le_of_ble_eq_true rfl) rfl (fun K C hl hg hR hT => ?_)
  subst hl
  subst hg
  refine g_aload_n (pc' := 1) C dL_appeal_0 rfl rfl ?_
  refine g_iconst (v := 0) (pc' := 2) C dL_appeal_1 (by decide) rfl ?_
  refine g_aload_n (pc' := 3) C dL_appeal_2 rfl rfl ?_
  refine g_iload_n (pc' := 4) C dL_appeal_3 rfl rfl ?_
  refine x_callV (pc' := 7) (mc := 1) (ms := 6) (As := [.int x]) (post := fun _ => pX (cK5 I z.1 x) (Kg K) z (some (.int (I 2 x.toNatClampNeg 6 - ff I x.toNatClampNeg 80))) (cO5 I x) (P) O) C hR.k cv_L_35 (fun sz => m_X3_appeal hfl X sz) dL_appeal_4 (by first | assumption | exact rfl | exact al13 rfl | exact Nat.le_of_ble_eq_true rfl) rfl rfl ⟨rfl, by decide +kernel, by decide +kernel, (by decide +kernel : (parseMethodDescriptor yX3_appeal.desc).map (fun d => d.parameters.length) = some 1)⟩ ⟨⟨Nat.le_of_ble_eq_true rfl, Nat.le_of_ble_eq_true rfl⟩, rfl, rfl⟩ rfl (Nat.le_of_ble_eq_true rfl) ⟨Nat.le_of_ble_eq_true rfl, Nat.le_of_ble_eq_true rfl⟩ rfl (fun E hE => ?_) (fun sz' v' g' z' I' P' O' hA' hp => ?_)
  · obtain ⟨j, hj, hk⟩ := hE
    simp only [List.mem_cons, List.not_mem_nil, or_false, Prod.mk.injEq] at hj
    rcases hj with ⟨rfl, rfl⟩ | ⟨rfl, rfl⟩
    · refine x_catch C hR.k hT [] ⟨0, 9, 12, 13⟩ [⟨0, 9, 15, 25⟩] rfl (fun y hy => by cases hy) rfl (by decide) lkI (List.mem_of_getElem? (i := 0) rfl) (fun q => ?_)
      refine g_astore_n (pc' := 13) C dL_appeal_12 rfl rfl ?_
      refine g_iconst (v := 1) (pc' := 14) C dL_appeal_13 (by decide) rfl ?_
      exact x_iret C hR dL_appeal_14 (Nat.le_of_ble_eq_true rfl) (Nat.le_of_ble_eq_true rfl) ⟨by rw [hk], Or.inr ⟨by rw [hk]; decide, rfl, rfl, rfl, rfl⟩⟩
    · refine x_catch C hR.k hT [⟨0, 9, 12, 13⟩] ⟨0, 9, 15, 25⟩ [] rfl (fun y hy => by
          simp only [List.mem_cons, List.not_mem_nil, or_false] at hy
          subst hy
          exact ⟨by decide, tI, lkI, List.mem_of_getElem? (i := 1) rfl⟩) rfl (by decide) lkS (List.mem_of_getElem? (i := 2) rfl) (fun q => ?_)
      refine g_astore_n (pc' := 16) C dL_appeal_15 rfl rfl ?_
      refine g_iconst (v := 2) (pc' := 17) C dL_appeal_16 (by decide) rfl ?_
      exact x_iret C hR dL_appeal_17 (Nat.le_of_ble_eq_true rfl) (Nat.le_of_ble_eq_true rfl) ⟨by rw [hk], Or.inr ⟨by rw [hk]; decide, rfl, rfl, rfl, rfl⟩⟩
  · obtain ⟨hk, rfl, rfl, rfl, rfl, rfl, rfl⟩ := hp
    rw [Kw_self]
    refine g_i2l (pc' := 8) C dL_appeal_7 rfl ?_
    refine g_last (pc' := 9) C dL_appeal_8 rfl ?_
    refine g_goto (tgt := 18) C dL_appeal_9 (by decide) ?_
    refine g_iconst (v := 0) (pc' := 19) C dL_appeal_18 (by decide) rfl ?_
    exact x_iret C hR dL_appeal_19 (Nat.le_of_ble_eq_true rfl) (Nat.le_of_ble_eq_true rfl) ⟨by rw [hk], Or.inl ⟨hk, ⟨rfl, rfl⟩, rfl, rfl, rfl⟩⟩
set_option maxRecDepth 20000 in
theorem w_settle {l : Launch} (hfl : l.stackTraces = false) {g : wG} {z : wZ} {I : wI} {P : wP} {O : wO} {x y : Int32} (X : XI z I P) (sz : Nat) : XT l yL_settle (.codeWith yL_settle cL_settle 5 (some .int) [(0, 10, 13, 13), (0, 10, 17, 25)]) { frames := 7, cells := 1, slots := 6, locals := 113 } g z sz [.ref (g.2.2 0 0), .int x, .int y, .ref (g.2.2 14 0)] I P O 1 6 (LW (cKs I z.1 x 3) g z (gE g z) ((I 2 x.toNatClampNeg 7).toInt64) I P (upI I 2 x.toNatClampNeg 5 (if y = 0 then 2 else 0)) (P)) (fun _ => False) := by
  refine XT.ofH (own := RL) rfl (by decide +kernel) hfl (Nat.le_of_ble_eq_true rfl) rfl (fun K C hl hg hR hT => ?_)
  subst hl
  subst hg
  refine g_aload_n (pc' := 1) C dL_settle_0 rfl rfl ?_
  refine g_iconst (v := 0) (pc' := 2) C dL_settle_1 (by decide) rfl ?_
  refine g_aload_n (pc' := 3) C dL_settle_2 rfl rfl ?_
  refine g_iload_n (pc' := 4) C dL_settle_3 rfl rfl ?_
  refine g_iload_n (pc' := 5) C dL_settle_4 rfl rfl ?_
  refine x_callV (pc' := 8) (mc := 1) (ms := 6) (As := [.int x, .int y]) (post := fun _ => pX (cKs I z.1 x 3) (Kg K) z (some (.int (I 2 x.toNatClampNeg 7))) (upI I 2 x.toNatClampNeg 5 (if y = 0 then 2 else 0)) (P) O) C hR.k cv_L_38 (fun sz => m_X3_settle hfl X sz) dL_settle_5 (by first | assumption | exact rfl | exact al13 rfl | exact Nat.le_of_ble_eq_true rfl) rfl rfl ⟨rfl, by decide +kernel, by decide +kernel, (by decide +kernel : (parseMethodDescriptor yX3_settle.desc).map (fun d => d.parameters.length) = some 2)⟩ ⟨⟨Nat.le_of_ble_eq_true rfl, Nat.le_of_ble_eq_true rfl⟩, rfl, rfl⟩ rfl (Nat.le_of_ble_eq_true rfl) ⟨Nat.le_of_ble_eq_true rfl, Nat.le_of_ble_eq_true rfl⟩ rfl (fun E hE => ?_) (fun sz' v' g' z' I' P' O' hA' hp => ?_)
  · obtain ⟨j, hj, hk⟩ := hE
    simp only [List.mem_cons, List.not_mem_nil, or_false, Prod.mk.injEq] at hj
    rcases hj with ⟨rfl, rfl⟩ | ⟨rfl, rfl⟩
    · refine x_catch C hR.k hT [] ⟨0, 10, 13, 13⟩ [⟨0, 10, 17, 25⟩] rfl (fun y hy => by cases hy) rfl (by decide) lkI (List.mem_of_getElem? (i := 0) rfl) (fun q => ?_)
      refine g_astore (pc' := 15) C dL_settle_13 rfl rfl ?_
      refine g_iconst (v := 1) (pc' := 16) C dL_settle_15 (by decide) rfl ?_
      exact x_iret C hR dL_settle_16 (Nat.le_of_ble_eq_true rfl) (Nat.le_of_ble_eq_true rfl) ⟨by rw [hk], Or.inr ⟨by rw [hk]; decide, rfl, rfl, rfl, rfl⟩⟩
    · refine x_catch C hR.k hT [⟨0, 10, 13, 13⟩] ⟨0, 10, 17, 25⟩ [] rfl (fun y hy => by
          simp only [List.mem_cons, List.not_mem_nil, or_false] at hy
          subst hy
          exact ⟨by decide, tI, lkI, List.mem_of_getElem? (i := 1) rfl⟩) rfl (by decide) lkS (List.mem_of_getElem? (i := 2) rfl) (fun q => ?_)
      refine g_astore (pc' := 19) C dL_settle_17 rfl rfl ?_
      refine g_iconst (v := 2) (pc' := 20) C dL_settle_19 (by decide) rfl ?_
      exact x_iret C hR dL_settle_20 (Nat.le_of_ble_eq_true rfl) (Nat.le_of_ble_eq_true rfl) ⟨by rw [hk], Or.inr ⟨by rw [hk]; decide, rfl, rfl, rfl, rfl⟩⟩
  · obtain ⟨hk, rfl, rfl, rfl, rfl, rfl, rfl⟩ := hp
    rw [Kw_self]
    refine g_i2l (pc' := 9) C dL_settle_8 rfl ?_
    refine g_last (pc' := 10) C dL_settle_9 rfl ?_
    refine g_goto (tgt := 21) C dL_settle_10 (by decide) ?_
    refine g_iconst (v := 0) (pc' := 22) C dL_settle_21 (by decide) rfl ?_
    exact x_iret C hR dL_settle_22 (Nat.le_of_ble_eq_true rfl) (Nat.le_of_ble_eq_true rfl) ⟨by rw [hk], Or.inl ⟨hk, ⟨rfl, rfl⟩, rfl, rfl, rfl⟩⟩
set_option maxRecDepth 20000 in
theorem w_close {l : Launch} (hfl : l.stackTraces = false) {g : wG} {z : wZ} {I : wI} {P : wP} {O : wO} {x : Int32} (X : XI z I P) (sz : Nat) : XT l yL_close (.codeWith yL_close cL_close 4 (some .int) [(0, 9, 12, 13), (0, 9, 15, 25)]) { frames := 7, cells := 1, slots := 6, locals := 112 } g z sz [.ref (g.2.2 0 0), .int x, .ref (g.2.2 14 0)] I P O 1 6 (LW (cKs I z.1 x 2) g z (gE g z) ((I 2 x.toNatClampNeg 6).toInt64) I P (upI I 2 x.toNatClampNeg 5 4) (P)) (fun _ => False) := by
  refine XT.ofH (own := RL) rfl (by decide +kernel) hfl (Nat.le_of_ble_eq_true rfl) rfl (fun K C hl hg hR hT => ?_)
  subst hl
  subst hg
  refine g_aload_n (pc' := 1) C dL_close_0 rfl rfl ?_
  refine g_iconst (v := 0) (pc' := 2) C dL_close_1 (by decide) rfl ?_
  refine g_aload_n (pc' := 3) C dL_close_2 rfl rfl ?_
  refine g_iload_n (pc' := 4) C dL_close_3 rfl rfl ?_
  refine x_callV (pc' := 7) (mc := 1) (ms := 6) (As := [.int x]) (post := fun _ => pX (cKs I z.1 x 2) (Kg K) z (some (.int (I 2 x.toNatClampNeg 6))) (upI I 2 x.toNatClampNeg 5 4) (P) O) C hR.k cv_L_42 (fun sz => m_X3_close hfl X sz) dL_close_4 (by first | assumption | exact rfl | exact al13 rfl | exact Nat.le_of_ble_eq_true rfl) rfl rfl ⟨rfl, by decide +kernel, by decide +kernel, (by decide +kernel : (parseMethodDescriptor yX3_close.desc).map (fun d => d.parameters.length) = some 1)⟩ ⟨⟨Nat.le_of_ble_eq_true rfl, Nat.le_of_ble_eq_true rfl⟩, rfl, rfl⟩ rfl (Nat.le_of_ble_eq_true rfl) ⟨Nat.le_of_ble_eq_true rfl, Nat.le_of_ble_eq_true rfl⟩ rfl (fun E hE => ?_) (fun sz' v' g' z' I' P' O' hA' hp => ?_)
  · obtain ⟨j, hj, hk⟩ := hE
    simp only [List.mem_cons, List.not_mem_nil, or_false, Prod.mk.injEq] at hj
    rcases hj with ⟨rfl, rfl⟩ | ⟨rfl, rfl⟩
    · refine x_catch C hR.k hT [] ⟨0, 9, 12, 13⟩ [⟨0, 9, 15, 25⟩] rfl (fun y hy => by cases hy) rfl (by decide) lkI (List.mem_of_getElem? (i := 0) rfl) (fun q => ?_)
      refine g_astore_n (pc' := 13) C dL_close_12 rfl rfl ?_
      refine g_iconst (v := 1) (pc' := 14) C dL_close_13 (by decide) rfl ?_
      exact x_iret C hR dL_close_14 (Nat.le_of_ble_eq_true rfl) (Nat.le_of_ble_eq_true rfl) ⟨by rw [hk], Or.inr ⟨by rw [hk]; decide, rfl, rfl, rfl, rfl⟩⟩
    · refine x_catch C hR.k hT [⟨0, 9, 12, 13⟩] ⟨0, 9, 15, 25⟩ [] rfl (fun y hy => by
          simp only [List.mem_cons, List.not_mem_nil, or_false] at hy
          subst hy
          exact ⟨by decide, tI, lkI, List.mem_of_getElem? (i := 1) rfl⟩) rfl (by decide) lkS (List.mem_of_getElem? (i := 2) rfl) (fun q => ?_)
      refine g_astore_n (pc' := 16) C dL_close_15 rfl rfl ?_
      refine g_iconst (v := 2) (pc' := 17) C dL_close_16 (by decide) rfl ?_
      exact x_iret C hR dL_close_17 (Nat.le_of_ble_eq_true rfl) (Nat.le_of_ble_eq_true rfl) ⟨by rw [hk], Or.inr ⟨by rw [hk]; decide, rfl, rfl, rfl, rfl⟩⟩
  · obtain ⟨hk, rfl, rfl, rfl, rfl, rfl, rfl⟩ := hp
    rw [Kw_self]
    refine g_i2l (pc' := 8) C dL_close_7 rfl ?_
    refine g_last (pc' := 9) C dL_close_8 rfl ?_
    refine g_goto (tgt := 18) C dL_close_9 (by decide) ?_
    refine g_iconst (v := 0) (pc' := 19) C dL_close_18 (by decide) rfl ?_
    exact x_iret C hR dL_close_19 (Nat.le_of_ble_eq_true rfl) (Nat.le_of_ble_eq_true rfl) ⟨by rw [hk], Or.inl ⟨hk, ⟨rfl, rfl⟩, rfl, rfl, rfl⟩⟩
set_option maxRecDepth 20000 in
theorem w_plan {l : Launch} (hfl : l.stackTraces = false) {g : wG} {z : wZ} {I : wI} {P : wP} {O : wO} {x r w a y : Int32} (X : XI z I P) (hRF : RF z P) (sz : Nat) : XT l yL_plan (.codeWith yL_plan cL_plan 8 (some .int) [(0, 16, 19, 13), (0, 16, 23, 15), (0, 16, 27, 25)]) { frames := 7, cells := 2, slots := 14, locals := 123 } g z sz [.ref (g.2.2 0 0), .int x, .int r, .int w, .int a, .int y, .ref (g.2.2 14 0)] I P O 2 14 (LW (cK8 I P z.1 z.2 x r w a y) g z (gN g z sz) ((nI z.2).toInt64) I P ((cO8 I P z.2 x r w a y).1) ((cO8 I P z.2 x r w a y).2)) (fun _ => False) := by
  refine XT.ofH (own := RL) rfl (by decide +kernel) hfl (Nat.le_of_ble_eq_true rfl) rfl (fun K C hl hg hR hT => ?_)
  subst hl
  subst hg
  refine g_aload (pc' := 2) C dL_plan_0 rfl rfl ?_
  refine g_iconst (v := 0) (pc' := 3) C dL_plan_2 (by decide) rfl ?_
  refine g_aload_n (pc' := 4) C dL_plan_3 rfl rfl ?_
  refine g_iload_n (pc' := 5) C dL_plan_4 rfl rfl ?_
  refine g_iload_n (pc' := 6) C dL_plan_5 rfl rfl ?_
  refine g_iload_n (pc' := 7) C dL_plan_6 rfl rfl ?_
  refine g_iload (pc' := 9) C dL_plan_7 rfl rfl ?_
  refine g_iload (pc' := 11) C dL_plan_9 rfl rfl ?_
  refine x_callV (pc' := 14) (mc := 2) (ms := 14) (As := [.int x, .int r, .int w, .int a, .int y]) (post := fun sz => pN (cK8 I P z.1 z.2 x r w a y) (Kg K) z sz ((cO8 I P z.2 x r w a y).1) ((cO8 I P z.2 x r w a y).2) O) C hR.k cv_L_45 (fun sz => m_X3_plan hfl X hRF sz) dL_plan_11 (by first | assumption | exact rfl | exact al13 rfl | exact Nat.le_of_ble_eq_true rfl) rfl rfl ⟨rfl, by decide +kernel, by decide +kernel, (by decide +kernel : (parseMethodDescriptor yX3_plan.desc).map (fun d => d.parameters.length) = some 5)⟩ ⟨⟨Nat.le_of_ble_eq_true rfl, Nat.le_of_ble_eq_true rfl⟩, rfl, rfl⟩ rfl (Nat.le_of_ble_eq_true rfl) ⟨Nat.le_of_ble_eq_true rfl, Nat.le_of_ble_eq_true rfl⟩ rfl (fun E hE => ?_) (fun sz' v' g' z' I' P' O' hA' hp => ?_)
  · obtain ⟨j, hj, hk⟩ := hE
    simp only [List.mem_cons, List.not_mem_nil, or_false, Prod.mk.injEq] at hj
    rcases hj with ⟨rfl, rfl⟩ | ⟨rfl, rfl⟩ | ⟨rfl, rfl⟩
    · refine x_catch C hR.k hT [] ⟨0, 16, 19, 13⟩ [⟨0, 16, 23, 15⟩, ⟨0, 16, 27, 25⟩] rfl (fun y hy => by cases hy) rfl (by decide) lkI (List.mem_of_getElem? (i := 0) rfl) (fun q => ?_)
      refine g_astore (pc' := 21) C dL_plan_19 rfl rfl ?_
      refine g_iconst (v := 1) (pc' := 22) C dL_plan_21 (by decide) rfl ?_
      exact x_iret C hR dL_plan_22 (Nat.le_of_ble_eq_true rfl) (Nat.le_of_ble_eq_true rfl) ⟨by rw [hk], Or.inr ⟨by rw [hk]; decide, rfl, rfl, rfl, rfl⟩⟩
    · refine x_catch C hR.k hT [⟨0, 16, 19, 13⟩] ⟨0, 16, 23, 15⟩ [⟨0, 16, 27, 25⟩] rfl (fun y hy => by
          simp only [List.mem_cons, List.not_mem_nil, or_false] at hy
          subst hy
          exact ⟨by decide, tI, lkI, List.mem_of_getElem? (i := 0) rfl⟩) rfl (by decide) lkA (List.mem_of_getElem? (i := 1) rfl) (fun q => ?_)
      refine g_astore (pc' := 25) C dL_plan_23 rfl rfl ?_
      refine g_iconst (v := 2) (pc' := 26) C dL_plan_25 (by decide) rfl ?_
      exact x_iret C hR dL_plan_26 (Nat.le_of_ble_eq_true rfl) (Nat.le_of_ble_eq_true rfl) ⟨by rw [hk], Or.inr ⟨by rw [hk]; decide, rfl, rfl, rfl, rfl⟩⟩
    · refine x_catch C hR.k hT [⟨0, 16, 19, 13⟩, ⟨0, 16, 23, 15⟩] ⟨0, 16, 27, 25⟩ [] rfl (fun y hy => by
          simp only [List.mem_cons, List.not_mem_nil, or_false] at hy
          rcases hy with rfl | rfl
          · exact ⟨by decide, tI, lkI, List.mem_of_getElem? (i := 1) rfl⟩
          · exact ⟨by decide, tA, lkA, List.mem_of_getElem? (i := 2) rfl⟩) rfl (by decide) lkS (List.mem_of_getElem? (i := 2) rfl) (fun q => ?_)
      refine g_astore (pc' := 29) C dL_plan_27 rfl rfl ?_
      refine g_iconst (v := 3) (pc' := 30) C dL_plan_29 (by decide) rfl ?_
      exact x_iret C hR dL_plan_30 (Nat.le_of_ble_eq_true rfl) (Nat.le_of_ble_eq_true rfl) ⟨by rw [hk], Or.inr ⟨by rw [hk]; decide, rfl, rfl, rfl, rfl⟩⟩
  · obtain ⟨hk, rfl, ⟨b, c, hb, hc, rfl⟩, rfl, rfl, rfl, rfl⟩ := hp
    have hb2 := hA' b hb
    have hc2 := hA' c hc
    have C' : Cx (Kw K (gUp (gUp (Kg K) 3 z.2 b) 11 z.2 c)) cL_plan RL 8 (some .int) _ (z.1, z.2 + 1) := C.up rfl rfl (fun k i hw => by
      rcases wAl_H hw with hw | ⟨rfl, rfl⟩ | ⟨rfl, rfl⟩
      · rw [gUp_H hw]; exact Cx.al C hw
      · rw [show (gUp (gUp (Kg K) 3 z.2 b) 11 z.2 c).2.2 3 z.2 = b from by show (if 3 = 11 ∧ z.2 = z.2 then c else if 3 = 3 ∧ z.2 = z.2 then b else (Kg K).2.2 3 z.2) = b; simp]; exact hb2
      · rw [show (gUp (gUp (Kg K) 3 z.2 b) 11 z.2 c).2.2 11 z.2 = c from if_pos ⟨rfl, rfl⟩]; exact hc2)
    have hR' := hR.up (gUp (gUp (Kg K) 3 z.2 b) 11 z.2 c)
    refine g_i2l (K := Kw K (gUp (gUp (Kg K) 3 z.2 b) 11 z.2 c)) (pc' := 15) C' dL_plan_14 rfl ?_
    refine g_last (K := Kw K (gUp (gUp (Kg K) 3 z.2 b) 11 z.2 c)) (pc' := 16) C' dL_plan_15 rfl ?_
    refine g_goto (tgt := 31) C' dL_plan_16 (by decide) ?_
    refine g_iconst (v := 0) (pc' := 32) C' dL_plan_31 (by decide) rfl ?_
    exact x_iret C' hR' dL_plan_32 (Nat.le_of_ble_eq_true rfl) (Nat.le_of_ble_eq_true rfl) ⟨by rw [hk], Or.inl ⟨hk, ⟨⟨b, c, hR.ka hb2, hR.ka hc2, rfl⟩, rfl⟩, rfl, rfl, rfl⟩⟩
set_option maxRecDepth 20000 in
theorem w_move {l : Launch} (hfl : l.stackTraces = false) {g : wG} {z : wZ} {I : wI} {P : wP} {O : wO} {x r w a : Int32} (X : XI z I P) (sz : Nat) : XT l yL_move (.codeWith yL_move cL_move 7 (some .int) [(0, 14, 17, 13), (0, 14, 21, 15), (0, 14, 25, 25)]) { frames := 7, cells := 1, slots := 6, locals := 121 } g z sz [.ref (g.2.2 0 0), .int x, .int r, .int w, .int a, .ref (g.2.2 14 0)] I P O 1 6 (LW (cK9 I P z.2 x r w a) g z (gE g z) (((cO9 I P x r w a).1 2 (mx (cO9 I P x r w a).2 x.toNatClampNeg) 6).toInt64) I P ((cO9 I P x r w a).1) ((cO9 I P x r w a).2)) (fun _ => False) := by
  refine XT.ofH (own := RL) rfl (by decide +kernel) hfl (Nat.le_of_ble_eq_true rfl) rfl (fun K C hl hg hR hT => ?_)
  subst hl
  subst hg
  refine g_aload (pc' := 2) C dL_move_0 rfl rfl ?_
  refine g_iconst (v := 0) (pc' := 3) C dL_move_2 (by decide) rfl ?_
  refine g_aload_n (pc' := 4) C dL_move_3 rfl rfl ?_
  refine g_iload_n (pc' := 5) C dL_move_4 rfl rfl ?_
  refine g_iload_n (pc' := 6) C dL_move_5 rfl rfl ?_
  refine g_iload_n (pc' := 7) C dL_move_6 rfl rfl ?_
  refine g_iload (pc' := 9) C dL_move_7 rfl rfl ?_
  refine x_callV (pc' := 12) (mc := 1) (ms := 6) (As := [.int x, .int r, .int w, .int a]) (post := fun _ => pX (cK9 I P z.2 x r w a) (Kg K) z (some (.int ((cO9 I P x r w a).1 2 (mx (cO9 I P x r w a).2 x.toNatClampNeg) 6))) ((cO9 I P x r w a).1) ((cO9 I P x r w a).2) O) C hR.k cv_L_49 (fun sz => m_X3_move hfl X sz) dL_move_9 (by first | assumption | exact rfl | exact al13 rfl | exact Nat.le_of_ble_eq_true rfl) rfl rfl ⟨rfl, by decide +kernel, by decide +kernel, (by decide +kernel : (parseMethodDescriptor yX3_move.desc).map (fun d => d.parameters.length) = some 4)⟩ ⟨⟨Nat.le_of_ble_eq_true rfl, Nat.le_of_ble_eq_true rfl⟩, rfl, rfl⟩ rfl (Nat.le_of_ble_eq_true rfl) ⟨Nat.le_of_ble_eq_true rfl, Nat.le_of_ble_eq_true rfl⟩ rfl (fun E hE => ?_) (fun sz' v' g' z' I' P' O' hA' hp => ?_)
  · obtain ⟨j, hj, hk⟩ := hE
    simp only [List.mem_cons, List.not_mem_nil, or_false, Prod.mk.injEq] at hj
    rcases hj with ⟨rfl, rfl⟩ | ⟨rfl, rfl⟩ | ⟨rfl, rfl⟩
    · refine x_catch C hR.k hT [] ⟨0, 14, 17, 13⟩ [⟨0, 14, 21, 15⟩, ⟨0, 14, 25, 25⟩] rfl (fun y hy => by cases hy) rfl (by decide) lkI (List.mem_of_getElem? (i := 0) rfl) (fun q => ?_)
      refine g_astore (pc' := 19) C dL_move_17 rfl rfl ?_
      refine g_iconst (v := 1) (pc' := 20) C dL_move_19 (by decide) rfl ?_
      exact x_iret C hR dL_move_20 (Nat.le_of_ble_eq_true rfl) (Nat.le_of_ble_eq_true rfl) ⟨by rw [hk], Or.inr ⟨by rw [hk]; decide, rfl, rfl, rfl, rfl⟩⟩
    · refine x_catch C hR.k hT [⟨0, 14, 17, 13⟩] ⟨0, 14, 21, 15⟩ [⟨0, 14, 25, 25⟩] rfl (fun y hy => by
          simp only [List.mem_cons, List.not_mem_nil, or_false] at hy
          subst hy
          exact ⟨by decide, tI, lkI, List.mem_of_getElem? (i := 0) rfl⟩) rfl (by decide) lkA (List.mem_of_getElem? (i := 1) rfl) (fun q => ?_)
      refine g_astore (pc' := 23) C dL_move_21 rfl rfl ?_
      refine g_iconst (v := 2) (pc' := 24) C dL_move_23 (by decide) rfl ?_
      exact x_iret C hR dL_move_24 (Nat.le_of_ble_eq_true rfl) (Nat.le_of_ble_eq_true rfl) ⟨by rw [hk], Or.inr ⟨by rw [hk]; decide, rfl, rfl, rfl, rfl⟩⟩
    · refine x_catch C hR.k hT [⟨0, 14, 17, 13⟩, ⟨0, 14, 21, 15⟩] ⟨0, 14, 25, 25⟩ [] rfl (fun y hy => by
          simp only [List.mem_cons, List.not_mem_nil, or_false] at hy
          rcases hy with rfl | rfl
          · exact ⟨by decide, tI, lkI, List.mem_of_getElem? (i := 1) rfl⟩
          · exact ⟨by decide, tA, lkA, List.mem_of_getElem? (i := 2) rfl⟩) rfl (by decide) lkS (List.mem_of_getElem? (i := 2) rfl) (fun q => ?_)
      refine g_astore (pc' := 27) C dL_move_25 rfl rfl ?_
      refine g_iconst (v := 3) (pc' := 28) C dL_move_27 (by decide) rfl ?_
      exact x_iret C hR dL_move_28 (Nat.le_of_ble_eq_true rfl) (Nat.le_of_ble_eq_true rfl) ⟨by rw [hk], Or.inr ⟨by rw [hk]; decide, rfl, rfl, rfl, rfl⟩⟩
  · obtain ⟨hk, rfl, rfl, rfl, rfl, rfl, rfl⟩ := hp
    rw [Kw_self]
    refine g_i2l (pc' := 13) C dL_move_12 rfl ?_
    refine g_last (pc' := 14) C dL_move_13 rfl ?_
    refine g_goto (tgt := 29) C dL_move_14 (by decide) ?_
    refine g_iconst (v := 0) (pc' := 30) C dL_move_29 (by decide) rfl ?_
    exact x_iret C hR dL_move_30 (Nat.le_of_ble_eq_true rfl) (Nat.le_of_ble_eq_true rfl) ⟨by rw [hk], Or.inl ⟨hk, ⟨rfl, rfl⟩, rfl, rfl, rfl⟩⟩
set_option maxRecDepth 20000 in
theorem w_drop {l : Launch} (hfl : l.stackTraces = false) {g : wG} {z : wZ} {I : wI} {P : wP} {O : wO} {x : Int32} (X : XI z I P) (sz : Nat) : XT l yL_drop (.codeWith yL_drop cL_drop 4 (some .int) [(0, 9, 12, 13), (0, 9, 15, 25)]) { frames := 7, cells := 1, slots := 6, locals := 112 } g z sz [.ref (g.2.2 0 0), .int x, .ref (g.2.2 14 0)] I P O 1 6 (LW (cK10 I z.2 x) g z (gE g z) (((cO10 I P x).1 2 (mx (cO10 I P x).2 x.toNatClampNeg) 6).toInt64) I P ((cO10 I P x).1) ((cO10 I P x).2)) (fun _ => False) := by
  refine XT.ofH (own := RL) rfl (by decide +kernel) hfl (Nat.le_of_ble_eq_true rfl) rfl (fun K C hl hg hR hT => ?_)
  subst hl
  subst hg
  refine g_aload_n (pc' := 1) C dL_drop_0 rfl rfl ?_
  refine g_iconst (v := 0) (pc' := 2) C dL_drop_1 (by decide) rfl ?_
  refine g_aload_n (pc' := 3) C dL_drop_2 rfl rfl ?_
  refine g_iload_n (pc' := 4) C dL_drop_3 rfl rfl ?_
  refine x_callV (pc' := 7) (mc := 1) (ms := 6) (As := [.int x]) (post := fun _ => pX (cK10 I z.2 x) (Kg K) z (some (.int ((cO10 I P x).1 2 (mx (cO10 I P x).2 x.toNatClampNeg) 6))) ((cO10 I P x).1) ((cO10 I P x).2) O) C hR.k cv_L_52 (fun sz => m_X3_drop hfl X sz) dL_drop_4 (by first | assumption | exact rfl | exact al13 rfl | exact Nat.le_of_ble_eq_true rfl) rfl rfl ⟨rfl, by decide +kernel, by decide +kernel, (by decide +kernel : (parseMethodDescriptor yX3_drop.desc).map (fun d => d.parameters.length) = some 1)⟩ ⟨⟨Nat.le_of_ble_eq_true rfl, Nat.le_of_ble_eq_true rfl⟩, rfl, rfl⟩ rfl (Nat.le_of_ble_eq_true rfl) ⟨Nat.le_of_ble_eq_true rfl, Nat.le_of_ble_eq_true rfl⟩ rfl (fun E hE => ?_) (fun sz' v' g' z' I' P' O' hA' hp => ?_)
  · obtain ⟨j, hj, hk⟩ := hE
    simp only [List.mem_cons, List.not_mem_nil, or_false, Prod.mk.injEq] at hj
    rcases hj with ⟨rfl, rfl⟩ | ⟨rfl, rfl⟩
    · refine x_catch C hR.k hT [] ⟨0, 9, 12, 13⟩ [⟨0, 9, 15, 25⟩] rfl (fun y hy => by cases hy) rfl (by decide) lkI (List.mem_of_getElem? (i := 0) rfl) (fun q => ?_)
      refine g_astore_n (pc' := 13) C dL_drop_12 rfl rfl ?_
      refine g_iconst (v := 1) (pc' := 14) C dL_drop_13 (by decide) rfl ?_
      exact x_iret C hR dL_drop_14 (Nat.le_of_ble_eq_true rfl) (Nat.le_of_ble_eq_true rfl) ⟨by rw [hk], Or.inr ⟨by rw [hk]; decide, rfl, rfl, rfl, rfl⟩⟩
    · refine x_catch C hR.k hT [⟨0, 9, 12, 13⟩] ⟨0, 9, 15, 25⟩ [] rfl (fun y hy => by
          simp only [List.mem_cons, List.not_mem_nil, or_false] at hy
          subst hy
          exact ⟨by decide, tI, lkI, List.mem_of_getElem? (i := 1) rfl⟩) rfl (by decide) lkS (List.mem_of_getElem? (i := 2) rfl) (fun q => ?_)
      refine g_astore_n (pc' := 16) C dL_drop_15 rfl rfl ?_
      refine g_iconst (v := 2) (pc' := 17) C dL_drop_16 (by decide) rfl ?_
      exact x_iret C hR dL_drop_17 (Nat.le_of_ble_eq_true rfl) (Nat.le_of_ble_eq_true rfl) ⟨by rw [hk], Or.inr ⟨by rw [hk]; decide, rfl, rfl, rfl, rfl⟩⟩
  · obtain ⟨hk, rfl, rfl, rfl, rfl, rfl, rfl⟩ := hp
    rw [Kw_self]
    refine g_i2l (pc' := 8) C dL_drop_7 rfl ?_
    refine g_last (pc' := 9) C dL_drop_8 rfl ?_
    refine g_goto (tgt := 18) C dL_drop_9 (by decide) ?_
    refine g_iconst (v := 0) (pc' := 19) C dL_drop_18 (by decide) rfl ?_
    exact x_iret C hR dL_drop_19 (Nat.le_of_ble_eq_true rfl) (Nat.le_of_ble_eq_true rfl) ⟨by rw [hk], Or.inl ⟨hk, ⟨rfl, rfl⟩, rfl, rfl, rfl⟩⟩
set_option maxRecDepth 20000 in
theorem w_notice {l : Launch} (hfl : l.stackTraces = false) {g : wG} {z : wZ} {I : wI} {P : wP} {O : wO} {x y : Int32} (X : XI z I P) (sz : Nat) : XT l yL_notice (.codeWith yL_notice cL_notice 5 (some .int) [(0, 17, 20, 13), (0, 17, 24, 15), (0, 17, 28, 25)]) { frames := 7, cells := 1, slots := 6, locals := 114 } g z sz [.ref (g.2.2 0 0), .int x, .int y, .ref (g.2.2 14 0)] I P O 1 6 (LW (cK11 I P z.2 x y) g z (gE g z) ((if (cO11 I P x y).2 = 0 then 0 else 1)) I P ((cO11 I P x y).1) (P)) (fun _ => False) := by
  refine XT.ofH (own := RL) rfl (by decide +kernel) hfl (Nat.le_of_ble_eq_true rfl) rfl (fun K C hl hg hR hT => ?_)
  subst hl
  subst hg
  refine g_aload_n (pc' := 1) C dL_notice_0 rfl rfl ?_
  refine g_iconst (v := 0) (pc' := 2) C dL_notice_1 (by decide) rfl ?_
  refine g_aload_n (pc' := 3) C dL_notice_2 rfl rfl ?_
  refine g_iload_n (pc' := 4) C dL_notice_3 rfl rfl ?_
  refine g_iload_n (pc' := 5) C dL_notice_4 rfl rfl ?_
  refine x_callV (pc' := 8) (mc := 1) (ms := 6) (As := [.int x, .int y]) (post := fun _ => pX (cK11 I P z.2 x y) (Kg K) z (some (.int ((cO11 I P x y).2))) ((cO11 I P x y).1) (P) O) C hR.k cv_L_55 (fun sz => m_X3_notice hfl X sz) dL_notice_5 (by first | assumption | exact rfl | exact al13 rfl | exact Nat.le_of_ble_eq_true rfl) rfl rfl ⟨rfl, by decide +kernel, by decide +kernel, (by decide +kernel : (parseMethodDescriptor yX3_notice.desc).map (fun d => d.parameters.length) = some 2)⟩ ⟨⟨Nat.le_of_ble_eq_true rfl, Nat.le_of_ble_eq_true rfl⟩, rfl, rfl⟩ rfl (Nat.le_of_ble_eq_true rfl) ⟨Nat.le_of_ble_eq_true rfl, Nat.le_of_ble_eq_true rfl⟩ rfl (fun E hE => ?_) (fun sz' v' g' z' I' P' O' hA' hp => ?_)
  · obtain ⟨j, hj, hk⟩ := hE
    simp only [List.mem_cons, List.not_mem_nil, or_false, Prod.mk.injEq] at hj
    rcases hj with ⟨rfl, rfl⟩ | ⟨rfl, rfl⟩ | ⟨rfl, rfl⟩
    · refine x_catch C hR.k hT [] ⟨0, 17, 20, 13⟩ [⟨0, 17, 24, 15⟩, ⟨0, 17, 28, 25⟩] rfl (fun y hy => by cases hy) rfl (by decide) lkI (List.mem_of_getElem? (i := 0) rfl) (fun q => ?_)
      refine g_astore (pc' := 22) C dL_notice_20 rfl rfl ?_
      refine g_iconst (v := 1) (pc' := 23) C dL_notice_22 (by decide) rfl ?_
      exact x_iret C hR dL_notice_23 (Nat.le_of_ble_eq_true rfl) (Nat.le_of_ble_eq_true rfl) ⟨by rw [hk], Or.inr ⟨by rw [hk]; decide, rfl, rfl, rfl, rfl⟩⟩
    · refine x_catch C hR.k hT [⟨0, 17, 20, 13⟩] ⟨0, 17, 24, 15⟩ [⟨0, 17, 28, 25⟩] rfl (fun y hy => by
          simp only [List.mem_cons, List.not_mem_nil, or_false] at hy
          subst hy
          exact ⟨by decide, tI, lkI, List.mem_of_getElem? (i := 0) rfl⟩) rfl (by decide) lkA (List.mem_of_getElem? (i := 1) rfl) (fun q => ?_)
      refine g_astore (pc' := 26) C dL_notice_24 rfl rfl ?_
      refine g_iconst (v := 2) (pc' := 27) C dL_notice_26 (by decide) rfl ?_
      exact x_iret C hR dL_notice_27 (Nat.le_of_ble_eq_true rfl) (Nat.le_of_ble_eq_true rfl) ⟨by rw [hk], Or.inr ⟨by rw [hk]; decide, rfl, rfl, rfl, rfl⟩⟩
    · refine x_catch C hR.k hT [⟨0, 17, 20, 13⟩, ⟨0, 17, 24, 15⟩] ⟨0, 17, 28, 25⟩ [] rfl (fun y hy => by
          simp only [List.mem_cons, List.not_mem_nil, or_false] at hy
          rcases hy with rfl | rfl
          · exact ⟨by decide, tI, lkI, List.mem_of_getElem? (i := 1) rfl⟩
          · exact ⟨by decide, tA, lkA, List.mem_of_getElem? (i := 2) rfl⟩) rfl (by decide) lkS (List.mem_of_getElem? (i := 2) rfl) (fun q => ?_)
      refine g_astore (pc' := 30) C dL_notice_28 rfl rfl ?_
      refine g_iconst (v := 3) (pc' := 31) C dL_notice_30 (by decide) rfl ?_
      exact x_iret C hR dL_notice_31 (Nat.le_of_ble_eq_true rfl) (Nat.le_of_ble_eq_true rfl) ⟨by rw [hk], Or.inr ⟨by rw [hk]; decide, rfl, rfl, rfl, rfl⟩⟩
  · obtain ⟨hk, rfl, rfl, rfl, rfl, rfl, rfl⟩ := hp
    rw [Kw_self]
    refine g_if_eq (tgt := 15) (pc' := 11) C dL_notice_8 (by decide) rfl (fun hb => ?_) (fun hb => ?_)
    · refine g_lconst (v := 0) (pc' := 16) C dL_notice_15 (by decide) rfl ?_
      refine g_last (pc' := 17) C dL_notice_16 rfl ?_
      refine g_goto (tgt := 32) C dL_notice_17 (by decide) ?_
      refine g_iconst (v := 0) (pc' := 33) C dL_notice_32 (by decide) rfl ?_
      exact x_iret C hR dL_notice_33 (Nat.le_of_ble_eq_true rfl) (Nat.le_of_ble_eq_true rfl) ⟨by rw [hk], Or.inl ⟨hk, ⟨rfl, rfl⟩, rfl, rfl, by rw [if_pos hb]; rfl⟩⟩
    · refine g_lconst (v := 1) (pc' := 12) C dL_notice_11 (by decide) rfl ?_
      refine g_goto (tgt := 16) C dL_notice_12 (by decide) ?_
      refine g_last (pc' := 17) C dL_notice_16 rfl ?_
      refine g_goto (tgt := 32) C dL_notice_17 (by decide) ?_
      refine g_iconst (v := 0) (pc' := 33) C dL_notice_32 (by decide) rfl ?_
      exact x_iret C hR dL_notice_33 (Nat.le_of_ble_eq_true rfl) (Nat.le_of_ble_eq_true rfl) ⟨by rw [hk], Or.inl ⟨hk, ⟨rfl, rfl⟩, rfl, rfl, by rw [if_neg hb]; rfl⟩⟩
set_option maxRecDepth 20000 in
theorem w_pass {l : Launch} (hfl : l.stackTraces = false) {g : wG} {z : wZ} {I : wI} {P : wP} {O : wO} {x : Int32} (X : XI z I P) (sz : Nat) : XT l yL_pass (.codeWith yL_pass cL_pass 4 (some .int) [(0, 9, 12, 15), (0, 9, 15, 25)]) { frames := 7, cells := 1, slots := 6, locals := 113 } g z sz [.ref (g.2.2 0 0), .int x, .ref (g.2.2 14 0)] I P O 1 6 (LW (cK12 (I 0 0 6) x) g z (gE g z) (((cPL P z x.toNatClampNeg (I, 0)).2).toInt64) I P ((cPL P z x.toNatClampNeg (I, 0)).1) (P)) (fun _ => False) := by
  refine XT.ofH (own := RL) rfl (by decide +kernel) hfl (Nat.le_of_ble_eq_true rfl) rfl (fun K C hl hg hR hT => ?_)
  subst hl
  subst hg
  refine g_aload_n (pc' := 1) C dL_pass_0 rfl rfl ?_
  refine g_iconst (v := 0) (pc' := 2) C dL_pass_1 (by decide) rfl ?_
  refine g_aload_n (pc' := 3) C dL_pass_2 rfl rfl ?_
  refine g_iload_n (pc' := 4) C dL_pass_3 rfl rfl ?_
  refine x_callV (pc' := 7) (mc := 1) (ms := 6) (As := [.int x]) (post := fun _ => pX (cK12 (I 0 0 6) x) (Kg K) z (some (.int ((cPL P z x.toNatClampNeg (I, 0)).2))) ((cPL P z x.toNatClampNeg (I, 0)).1) (P) O) C hR.k cv_L_59 (fun sz => m_X3_pass hfl X sz) dL_pass_4 (by first | assumption | exact rfl | exact al13 rfl | exact Nat.le_of_ble_eq_true rfl) rfl rfl ⟨rfl, by decide +kernel, by decide +kernel, (by decide +kernel : (parseMethodDescriptor yX3_pass.desc).map (fun d => d.parameters.length) = some 1)⟩ ⟨⟨Nat.le_of_ble_eq_true rfl, Nat.le_of_ble_eq_true rfl⟩, rfl, rfl⟩ rfl (Nat.le_of_ble_eq_true rfl) ⟨Nat.le_of_ble_eq_true rfl, Nat.le_of_ble_eq_true rfl⟩ rfl (fun E hE => ?_) (fun sz' v' g' z' I' P' O' hA' hp => ?_)
  · obtain ⟨j, hj, hk⟩ := hE
    simp only [List.mem_cons, List.not_mem_nil, or_false, Prod.mk.injEq] at hj
    rcases hj with ⟨rfl, rfl⟩ | ⟨rfl, rfl⟩
    · refine x_catch C hR.k hT [] ⟨0, 9, 12, 15⟩ [⟨0, 9, 15, 25⟩] rfl (fun y hy => by cases hy) rfl (by decide) lkA (List.mem_of_getElem? (i := 1) rfl) (fun q => ?_)
      refine g_astore_n (pc' := 13) C dL_pass_12 rfl rfl ?_
      refine g_iconst (v := 1) (pc' := 14) C dL_pass_13 (by decide) rfl ?_
      exact x_iret C hR dL_pass_14 (Nat.le_of_ble_eq_true rfl) (Nat.le_of_ble_eq_true rfl) ⟨by rw [hk], Or.inr ⟨by rw [hk]; decide, rfl, rfl, rfl, rfl⟩⟩
    · refine x_catch C hR.k hT [⟨0, 9, 12, 15⟩] ⟨0, 9, 15, 25⟩ [] rfl (fun y hy => by
          simp only [List.mem_cons, List.not_mem_nil, or_false] at hy
          subst hy
          exact ⟨by decide, tA, lkA, List.mem_of_getElem? (i := 2) rfl⟩) rfl (by decide) lkS (List.mem_of_getElem? (i := 2) rfl) (fun q => ?_)
      refine g_astore_n (pc' := 16) C dL_pass_15 rfl rfl ?_
      refine g_iconst (v := 2) (pc' := 17) C dL_pass_16 (by decide) rfl ?_
      exact x_iret C hR dL_pass_17 (Nat.le_of_ble_eq_true rfl) (Nat.le_of_ble_eq_true rfl) ⟨by rw [hk], Or.inr ⟨by rw [hk]; decide, rfl, rfl, rfl, rfl⟩⟩
  · obtain ⟨hk, rfl, rfl, rfl, rfl, rfl, rfl⟩ := hp
    rw [Kw_self]
    refine g_i2l (pc' := 8) C dL_pass_7 rfl ?_
    refine g_last (pc' := 9) C dL_pass_8 rfl ?_
    refine g_goto (tgt := 18) C dL_pass_9 (by decide) ?_
    refine g_iconst (v := 0) (pc' := 19) C dL_pass_18 (by decide) rfl ?_
    exact x_iret C hR dL_pass_19 (Nat.le_of_ble_eq_true rfl) (Nat.le_of_ble_eq_true rfl) ⟨by rw [hk], Or.inl ⟨hk, ⟨rfl, rfl⟩, rfl, rfl, rfl⟩⟩
set_option maxRecDepth 20000 in
theorem w_clash {l : Launch} (hfl : l.stackTraces = false) {g : wG} {z : wZ} {I : wI} {P : wP} {O : wO} {x r w a y : Int32} (X : XI z I P) (sz : Nat) : XT l yL_clash (.codeWith yL_clash cL_clash 8 (some .int) [(0, 16, 19, 13), (0, 16, 23, 15)]) { frames := 7, cells := 1, slots := 6, locals := 122 } g z sz [.ref (g.2.2 0 0), .int x, .int r, .int w, .int a, .int y, .ref (g.2.2 14 0)] I P O 1 6 (LW (cK13 z.1 x r w a y) g z (gE g z) ((crL I P none x.toNatClampNeg r w a y z.2 0 0).toInt64) I P (I) (P)) (fun _ => False) := by
  refine XT.ofH (own := RL) rfl (by decide +kernel) hfl (Nat.le_of_ble_eq_true rfl) rfl (fun K C hl hg hR hT => ?_)
  subst hl
  subst hg
  refine g_aload (pc' := 2) C dL_clash_0 rfl rfl ?_
  refine g_iconst (v := 0) (pc' := 3) C dL_clash_2 (by decide) rfl ?_
  refine g_aload_n (pc' := 4) C dL_clash_3 rfl rfl ?_
  refine g_iload_n (pc' := 5) C dL_clash_4 rfl rfl ?_
  refine g_iload_n (pc' := 6) C dL_clash_5 rfl rfl ?_
  refine g_iload_n (pc' := 7) C dL_clash_6 rfl rfl ?_
  refine g_iload (pc' := 9) C dL_clash_7 rfl rfl ?_
  refine g_iload (pc' := 11) C dL_clash_9 rfl rfl ?_
  refine x_callV (pc' := 14) (mc := 1) (ms := 6) (As := [.int x, .int r, .int w, .int a, .int y]) (post := fun _ => pX (cK13 z.1 x r w a y) (Kg K) z (some (.int (crL I P none x.toNatClampNeg r w a y z.2 0 0))) (I) (P) O) C hR.k cv_L_62 (fun sz => m_X3_clash hfl X sz) dL_clash_11 (by first | assumption | exact rfl | exact al13 rfl | exact Nat.le_of_ble_eq_true rfl) rfl rfl ⟨rfl, by decide +kernel, by decide +kernel, (by decide +kernel : (parseMethodDescriptor yX3_clash.desc).map (fun d => d.parameters.length) = some 5)⟩ ⟨⟨Nat.le_of_ble_eq_true rfl, Nat.le_of_ble_eq_true rfl⟩, rfl, rfl⟩ rfl (Nat.le_of_ble_eq_true rfl) ⟨Nat.le_of_ble_eq_true rfl, Nat.le_of_ble_eq_true rfl⟩ rfl (fun E hE => ?_) (fun sz' v' g' z' I' P' O' hA' hp => ?_)
  · obtain ⟨j, hj, hk⟩ := hE
    simp only [List.mem_cons, List.not_mem_nil, or_false, Prod.mk.injEq] at hj
    rcases hj with ⟨rfl, rfl⟩ | ⟨rfl, rfl⟩
    · refine x_catch C hR.k hT [] ⟨0, 16, 19, 13⟩ [⟨0, 16, 23, 15⟩] rfl (fun y hy => by cases hy) rfl (by decide) lkI (List.mem_of_getElem? (i := 0) rfl) (fun q => ?_)
      refine g_astore (pc' := 21) C dL_clash_19 rfl rfl ?_
      refine g_iconst (v := 1) (pc' := 22) C dL_clash_21 (by decide) rfl ?_
      exact x_iret C hR dL_clash_22 (Nat.le_of_ble_eq_true rfl) (Nat.le_of_ble_eq_true rfl) ⟨by rw [hk], Or.inr ⟨by rw [hk]; decide, rfl, rfl, rfl, rfl⟩⟩
    · refine x_catch C hR.k hT [⟨0, 16, 19, 13⟩] ⟨0, 16, 23, 15⟩ [] rfl (fun y hy => by
          simp only [List.mem_cons, List.not_mem_nil, or_false] at hy
          subst hy
          exact ⟨by decide, tI, lkI, List.mem_of_getElem? (i := 0) rfl⟩) rfl (by decide) lkA (List.mem_of_getElem? (i := 1) rfl) (fun q => ?_)
      refine g_astore (pc' := 25) C dL_clash_23 rfl rfl ?_
      refine g_iconst (v := 2) (pc' := 26) C dL_clash_25 (by decide) rfl ?_
      exact x_iret C hR dL_clash_26 (Nat.le_of_ble_eq_true rfl) (Nat.le_of_ble_eq_true rfl) ⟨by rw [hk], Or.inr ⟨by rw [hk]; decide, rfl, rfl, rfl, rfl⟩⟩
  · obtain ⟨hk, rfl, rfl, rfl, rfl, rfl, rfl⟩ := hp
    rw [Kw_self]
    refine g_i2l (pc' := 15) C dL_clash_14 rfl ?_
    refine g_last (pc' := 16) C dL_clash_15 rfl ?_
    refine g_goto (tgt := 27) C dL_clash_16 (by decide) ?_
    refine g_iconst (v := 0) (pc' := 28) C dL_clash_27 (by decide) rfl ?_
    exact x_iret C hR dL_clash_28 (Nat.le_of_ble_eq_true rfl) (Nat.le_of_ble_eq_true rfl) ⟨by rw [hk], Or.inl ⟨hk, ⟨rfl, rfl⟩, rfl, rfl, rfl⟩⟩
set_option maxRecDepth 20000 in
theorem w_at {l : Launch} (hfl : l.stackTraces = false) {g : wG} {z : wZ} {I : wI} {P : wP} {O : wO} {x y w : Int32} (X : XI z I P) (sz : Nat) : XT l yL_at (.codeWith yL_at cL_at 6 (some .int) [(0, 12, 15, 15), (0, 12, 19, 13)]) { frames := 7, cells := 1, slots := 6, locals := 115 } g z sz [.ref (g.2.2 0 0), .int x, .int y, .int w, .ref (g.2.2 14 0)] I P O 1 6 (LW (cK14 x y w) g z (gE g z) ((caL I P x y w z.2 0).toInt64) I P (I) (P)) (fun _ => False) := by
  refine XT.ofH (own := RL) rfl (by decide +kernel) hfl (Nat.le_of_ble_eq_true rfl) rfl (fun K C hl hg hR hT => ?_)
  subst hl
  subst hg
  refine g_aload (pc' := 2) C dL_at_0 rfl rfl ?_
  refine g_iconst (v := 0) (pc' := 3) C dL_at_2 (by decide) rfl ?_
  refine g_aload_n (pc' := 4) C dL_at_3 rfl rfl ?_
  refine g_iload_n (pc' := 5) C dL_at_4 rfl rfl ?_
  refine g_iload_n (pc' := 6) C dL_at_5 rfl rfl ?_
  refine g_iload_n (pc' := 7) C dL_at_6 rfl rfl ?_
  refine x_callV (pc' := 10) (mc := 1) (ms := 6) (As := [.int x, .int y, .int w]) (post := fun _ => pX (cK14 x y w) (Kg K) z (some (.int (caL I P x y w z.2 0))) (I) (P) O) C hR.k cv_L_65 (fun sz => m_X3_at hfl X sz) dL_at_7 (by first | assumption | exact rfl | exact al13 rfl | exact Nat.le_of_ble_eq_true rfl) rfl rfl ⟨rfl, by decide +kernel, by decide +kernel, (by decide +kernel : (parseMethodDescriptor yX3_at.desc).map (fun d => d.parameters.length) = some 3)⟩ ⟨⟨Nat.le_of_ble_eq_true rfl, Nat.le_of_ble_eq_true rfl⟩, rfl, rfl⟩ rfl (Nat.le_of_ble_eq_true rfl) ⟨Nat.le_of_ble_eq_true rfl, Nat.le_of_ble_eq_true rfl⟩ rfl (fun E hE => ?_) (fun sz' v' g' z' I' P' O' hA' hp => ?_)
  · obtain ⟨j, hj, hk⟩ := hE
    simp only [List.mem_cons, List.not_mem_nil, or_false, Prod.mk.injEq] at hj
    rcases hj with ⟨rfl, rfl⟩ | ⟨rfl, rfl⟩
    · refine x_catch C hR.k hT [] ⟨0, 12, 15, 15⟩ [⟨0, 12, 19, 13⟩] rfl (fun y hy => by cases hy) rfl (by decide) lkA (List.mem_of_getElem? (i := 1) rfl) (fun q => ?_)
      refine g_astore (pc' := 17) C dL_at_15 rfl rfl ?_
      refine g_iconst (v := 1) (pc' := 18) C dL_at_17 (by decide) rfl ?_
      exact x_iret C hR dL_at_18 (Nat.le_of_ble_eq_true rfl) (Nat.le_of_ble_eq_true rfl) ⟨by rw [hk], Or.inr ⟨by rw [hk]; decide, rfl, rfl, rfl, rfl⟩⟩
    · refine x_catch C hR.k hT [⟨0, 12, 15, 15⟩] ⟨0, 12, 19, 13⟩ [] rfl (fun y hy => by
          simp only [List.mem_cons, List.not_mem_nil, or_false] at hy
          subst hy
          exact ⟨by decide, tA, lkA, List.mem_of_getElem? (i := 3) rfl⟩) rfl (by decide) lkI (List.mem_of_getElem? (i := 0) rfl) (fun q => ?_)
      refine g_astore (pc' := 21) C dL_at_19 rfl rfl ?_
      refine g_iconst (v := 2) (pc' := 22) C dL_at_21 (by decide) rfl ?_
      exact x_iret C hR dL_at_22 (Nat.le_of_ble_eq_true rfl) (Nat.le_of_ble_eq_true rfl) ⟨by rw [hk], Or.inr ⟨by rw [hk]; decide, rfl, rfl, rfl, rfl⟩⟩
  · obtain ⟨hk, rfl, rfl, rfl, rfl, rfl, rfl⟩ := hp
    rw [Kw_self]
    refine g_i2l (pc' := 11) C dL_at_10 rfl ?_
    refine g_last (pc' := 12) C dL_at_11 rfl ?_
    refine g_goto (tgt := 23) C dL_at_12 (by decide) ?_
    refine g_iconst (v := 0) (pc' := 24) C dL_at_23 (by decide) rfl ?_
    exact x_iret C hR dL_at_24 (Nat.le_of_ble_eq_true rfl) (Nat.le_of_ble_eq_true rfl) ⟨by rw [hk], Or.inl ⟨hk, ⟨rfl, rfl⟩, rfl, rfl, rfl⟩⟩
set_option maxRecDepth 20000 in
theorem w_about {l : Launch} (hfl : l.stackTraces = false) {g : wG} {z : wZ} {I : wI} {P : wP} {O : wO} {x y : Int32} (X : XI z I P) (sz : Nat) : XT l yL_about (.codeWith yL_about cL_about 5 (some .int) [(0, 10, 13, 13), (0, 10, 17, 15)]) { frames := 7, cells := 1, slots := 6, locals := 113 } g z sz [.ref (g.2.2 0 0), .int x, .int y, .ref (g.2.2 14 0)] I P O 1 6 (LW (cK15 z.1 x y) g z (gE g z) ((cV15 I P x.toNatClampNeg y).toInt64) I P (I) (P)) (fun _ => False) := by
  refine XT.ofH (own := RL) rfl (by decide +kernel) hfl (Nat.le_of_ble_eq_true rfl) rfl (fun K C hl hg hR hT => ?_)
  subst hl
  subst hg
  refine g_aload_n (pc' := 1) C dL_about_0 rfl rfl ?_
  refine g_iconst (v := 0) (pc' := 2) C dL_about_1 (by decide) rfl ?_
  refine g_aload_n (pc' := 3) C dL_about_2 rfl rfl ?_
  refine g_iload_n (pc' := 4) C dL_about_3 rfl rfl ?_
  refine g_iload_n (pc' := 5) C dL_about_4 rfl rfl ?_
  refine x_callV (pc' := 8) (mc := 1) (ms := 6) (As := [.int x, .int y]) (post := fun _ => pX (cK15 z.1 x y) (Kg K) z (some (.int (cV15 I P x.toNatClampNeg y))) (I) (P) O) C hR.k cv_L_68 (fun sz => m_X3_about hfl X sz) dL_about_5 (by first | assumption | exact rfl | exact al13 rfl | exact Nat.le_of_ble_eq_true rfl) rfl rfl ⟨rfl, by decide +kernel, by decide +kernel, (by decide +kernel : (parseMethodDescriptor yX3_about.desc).map (fun d => d.parameters.length) = some 2)⟩ ⟨⟨Nat.le_of_ble_eq_true rfl, Nat.le_of_ble_eq_true rfl⟩, rfl, rfl⟩ rfl (Nat.le_of_ble_eq_true rfl) ⟨Nat.le_of_ble_eq_true rfl, Nat.le_of_ble_eq_true rfl⟩ rfl (fun E hE => ?_) (fun sz' v' g' z' I' P' O' hA' hp => ?_)
  · obtain ⟨j, hj, hk⟩ := hE
    simp only [List.mem_cons, List.not_mem_nil, or_false, Prod.mk.injEq] at hj
    rcases hj with ⟨rfl, rfl⟩ | ⟨rfl, rfl⟩
    · refine x_catch C hR.k hT [] ⟨0, 10, 13, 13⟩ [⟨0, 10, 17, 15⟩] rfl (fun y hy => by cases hy) rfl (by decide) lkI (List.mem_of_getElem? (i := 0) rfl) (fun q => ?_)
      refine g_astore (pc' := 15) C dL_about_13 rfl rfl ?_
      refine g_iconst (v := 1) (pc' := 16) C dL_about_15 (by decide) rfl ?_
      exact x_iret C hR dL_about_16 (Nat.le_of_ble_eq_true rfl) (Nat.le_of_ble_eq_true rfl) ⟨by rw [hk], Or.inr ⟨by rw [hk]; decide, rfl, rfl, rfl, rfl⟩⟩
    · refine x_catch C hR.k hT [⟨0, 10, 13, 13⟩] ⟨0, 10, 17, 15⟩ [] rfl (fun y hy => by
          simp only [List.mem_cons, List.not_mem_nil, or_false] at hy
          subst hy
          exact ⟨by decide, tI, lkI, List.mem_of_getElem? (i := 0) rfl⟩) rfl (by decide) lkA (List.mem_of_getElem? (i := 1) rfl) (fun q => ?_)
      refine g_astore (pc' := 19) C dL_about_17 rfl rfl ?_
      refine g_iconst (v := 2) (pc' := 20) C dL_about_19 (by decide) rfl ?_
      exact x_iret C hR dL_about_20 (Nat.le_of_ble_eq_true rfl) (Nat.le_of_ble_eq_true rfl) ⟨by rw [hk], Or.inr ⟨by rw [hk]; decide, rfl, rfl, rfl, rfl⟩⟩
  · obtain ⟨hk, rfl, rfl, rfl, rfl, rfl, rfl⟩ := hp
    rw [Kw_self]
    refine g_i2l (pc' := 9) C dL_about_8 rfl ?_
    refine g_last (pc' := 10) C dL_about_9 rfl ?_
    refine g_goto (tgt := 21) C dL_about_10 (by decide) ?_
    refine g_iconst (v := 0) (pc' := 22) C dL_about_21 (by decide) rfl ?_
    exact x_iret C hR dL_about_22 (Nat.le_of_ble_eq_true rfl) (Nat.le_of_ble_eq_true rfl) ⟨by rw [hk], Or.inl ⟨hk, ⟨rfl, rfl⟩, rfl, rfl, rfl⟩⟩
set_option maxRecDepth 20000 in
theorem w_hearing {l : Launch} (hfl : l.stackTraces = false) {g : wG} {z : wZ} {I : wI} {P : wP} {O : wO} {x y : Int32} (X : XI z I P) (sz : Nat) : XT l yL_hearing (.codeWith yL_hearing cL_hearing 5 (some .int) [(0, 10, 13, 13), (0, 10, 17, 15)]) { frames := 7, cells := 1, slots := 6, locals := 113 } g z sz [.ref (g.2.2 0 0), .int x, .int y, .ref (g.2.2 14 0)] I P O 1 6 (LW (cK15 z.2 x y) g z (gE g z) ((cV16 I P x.toNatClampNeg y).toInt64) I P (I) (P)) (fun _ => False) := by
  refine XT.ofH (own := RL) rfl (by decide +kernel) hfl (Nat.le_of_ble_eq_true rfl) rfl (fun K C hl hg hR hT => ?_)
  subst hl
  subst hg
  refine g_aload_n (pc' := 1) C dL_hearing_0 rfl rfl ?_
  refine g_iconst (v := 0) (pc' := 2) C dL_hearing_1 (by decide) rfl ?_
  refine g_aload_n (pc' := 3) C dL_hearing_2 rfl rfl ?_
  refine g_iload_n (pc' := 4) C dL_hearing_3 rfl rfl ?_
  refine g_iload_n (pc' := 5) C dL_hearing_4 rfl rfl ?_
  refine x_callV (pc' := 8) (mc := 1) (ms := 6) (As := [.int x, .int y]) (post := fun _ => pX (cK15 z.2 x y) (Kg K) z (some (.int (cV16 I P x.toNatClampNeg y))) (I) (P) O) C hR.k cv_L_71 (fun sz => m_X3_hearing hfl X sz) dL_hearing_5 (by first | assumption | exact rfl | exact al13 rfl | exact Nat.le_of_ble_eq_true rfl) rfl rfl ⟨rfl, by decide +kernel, by decide +kernel, (by decide +kernel : (parseMethodDescriptor yX3_hearing.desc).map (fun d => d.parameters.length) = some 2)⟩ ⟨⟨Nat.le_of_ble_eq_true rfl, Nat.le_of_ble_eq_true rfl⟩, rfl, rfl⟩ rfl (Nat.le_of_ble_eq_true rfl) ⟨Nat.le_of_ble_eq_true rfl, Nat.le_of_ble_eq_true rfl⟩ rfl (fun E hE => ?_) (fun sz' v' g' z' I' P' O' hA' hp => ?_)
  · obtain ⟨j, hj, hk⟩ := hE
    simp only [List.mem_cons, List.not_mem_nil, or_false, Prod.mk.injEq] at hj
    rcases hj with ⟨rfl, rfl⟩ | ⟨rfl, rfl⟩
    · refine x_catch C hR.k hT [] ⟨0, 10, 13, 13⟩ [⟨0, 10, 17, 15⟩] rfl (fun y hy => by cases hy) rfl (by decide) lkI (List.mem_of_getElem? (i := 0) rfl) (fun q => ?_)
      refine g_astore (pc' := 15) C dL_hearing_13 rfl rfl ?_
      refine g_iconst (v := 1) (pc' := 16) C dL_hearing_15 (by decide) rfl ?_
      exact x_iret C hR dL_hearing_16 (Nat.le_of_ble_eq_true rfl) (Nat.le_of_ble_eq_true rfl) ⟨by rw [hk], Or.inr ⟨by rw [hk]; decide, rfl, rfl, rfl, rfl⟩⟩
    · refine x_catch C hR.k hT [⟨0, 10, 13, 13⟩] ⟨0, 10, 17, 15⟩ [] rfl (fun y hy => by
          simp only [List.mem_cons, List.not_mem_nil, or_false] at hy
          subst hy
          exact ⟨by decide, tI, lkI, List.mem_of_getElem? (i := 0) rfl⟩) rfl (by decide) lkA (List.mem_of_getElem? (i := 1) rfl) (fun q => ?_)
      refine g_astore (pc' := 19) C dL_hearing_17 rfl rfl ?_
      refine g_iconst (v := 2) (pc' := 20) C dL_hearing_19 (by decide) rfl ?_
      exact x_iret C hR dL_hearing_20 (Nat.le_of_ble_eq_true rfl) (Nat.le_of_ble_eq_true rfl) ⟨by rw [hk], Or.inr ⟨by rw [hk]; decide, rfl, rfl, rfl, rfl⟩⟩
  · obtain ⟨hk, rfl, rfl, rfl, rfl, rfl, rfl⟩ := hp
    rw [Kw_self]
    refine g_i2l (pc' := 9) C dL_hearing_8 rfl ?_
    refine g_last (pc' := 10) C dL_hearing_9 rfl ?_
    refine g_goto (tgt := 21) C dL_hearing_10 (by decide) ?_
    refine g_iconst (v := 0) (pc' := 22) C dL_hearing_21 (by decide) rfl ?_
    exact x_iret C hR dL_hearing_22 (Nat.le_of_ble_eq_true rfl) (Nat.le_of_ble_eq_true rfl) ⟨by rw [hk], Or.inl ⟨hk, ⟨rfl, rfl⟩, rfl, rfl, rfl⟩⟩
set_option maxRecDepth 20000 in
theorem w_paidBy {l : Launch} (hfl : l.stackTraces = false) {g : wG} {z : wZ} {I : wI} {P : wP} {O : wO} {x y : Int32} (X : XI z I P) (sz : Nat) : XT l yL_paidBy (.codeWith yL_paidBy cL_paidBy 5 (some .int) [(0, 10, 13, 13)]) { frames := 7, cells := 1, slots := 6, locals := 114 } g z sz [.ref (g.2.2 0 0), .int x, .int y, .ref (g.2.2 14 0)] I P O 1 6 (LW (cK17 x y) g z (gE g z) ((cV17 I P x y).toInt64) I P (I) (P)) (fun _ => False) := by
  refine XT.ofH (own := RL) rfl (by decide +kernel) hfl (Nat.le_of_ble_eq_true rfl) rfl (fun K C hl hg hR hT => ?_)
  subst hl
  subst hg
  refine g_aload_n (pc' := 1) C dL_paidBy_0 rfl rfl ?_
  refine g_iconst (v := 0) (pc' := 2) C dL_paidBy_1 (by decide) rfl ?_
  refine g_aload_n (pc' := 3) C dL_paidBy_2 rfl rfl ?_
  refine g_iload_n (pc' := 4) C dL_paidBy_3 rfl rfl ?_
  refine g_iload_n (pc' := 5) C dL_paidBy_4 rfl rfl ?_
  refine x_callV (pc' := 8) (mc := 1) (ms := 6) (As := [.int x, .int y]) (post := fun _ => pX (cK17 x y) (Kg K) z (some (.int (cV17 I P x y))) (I) (P) O) C hR.k cv_L_74 (fun sz => m_X3_paidBy hfl X sz) dL_paidBy_5 (by first | assumption | exact rfl | exact al13 rfl | exact Nat.le_of_ble_eq_true rfl) rfl rfl ⟨rfl, by decide +kernel, by decide +kernel, (by decide +kernel : (parseMethodDescriptor yX3_paidBy.desc).map (fun d => d.parameters.length) = some 2)⟩ ⟨⟨Nat.le_of_ble_eq_true rfl, Nat.le_of_ble_eq_true rfl⟩, rfl, rfl⟩ rfl (Nat.le_of_ble_eq_true rfl) ⟨Nat.le_of_ble_eq_true rfl, Nat.le_of_ble_eq_true rfl⟩ rfl (fun E hE => ?_) (fun sz' v' g' z' I' P' O' hA' hp => ?_)
  · obtain ⟨j, hj, hk⟩ := hE
    simp only [List.mem_cons, List.not_mem_nil, or_false, Prod.mk.injEq] at hj
    obtain ⟨rfl, rfl⟩ := hj
    refine x_catch C hR.k hT [] ⟨0, 10, 13, 13⟩ [] rfl (fun y hy => by cases hy) rfl (by decide) lkI (List.mem_of_getElem? (i := 0) rfl) (fun q => ?_)
    refine g_astore (pc' := 15) C dL_paidBy_13 rfl rfl ?_
    refine g_iconst (v := 1) (pc' := 16) C dL_paidBy_15 (by decide) rfl ?_
    exact x_iret C hR dL_paidBy_16 (Nat.le_of_ble_eq_true rfl) (Nat.le_of_ble_eq_true rfl) ⟨by rw [hk], Or.inr ⟨by rw [hk]; decide, rfl, rfl, rfl, rfl⟩⟩
  · obtain ⟨hk, rfl, rfl, rfl, rfl, rfl, rfl⟩ := hp
    rw [Kw_self]
    refine g_i2l (pc' := 9) C dL_paidBy_8 rfl ?_
    refine g_last (pc' := 10) C dL_paidBy_9 rfl ?_
    refine g_goto (tgt := 17) C dL_paidBy_10 (by decide) ?_
    refine g_iconst (v := 0) (pc' := 18) C dL_paidBy_17 (by decide) rfl ?_
    exact x_iret C hR dL_paidBy_18 (Nat.le_of_ble_eq_true rfl) (Nat.le_of_ble_eq_true rfl) ⟨by rw [hk], Or.inl ⟨hk, ⟨rfl, rfl⟩, rfl, rfl, rfl⟩⟩
end WWrap
