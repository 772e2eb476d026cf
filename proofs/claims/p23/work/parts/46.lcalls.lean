section WLcalls
abbrev LX (k r ve : Int32) (GE : wG → wZ → Prop) (g : wG) (z : wZ) (I : wI) (P : wP) (I1 : wI) (P1 : wP) (O : wO) : wPost := fun v' g' z' I' P' O' => O' = O ∧ ((k = 0 ∧ v' = some (.int r) ∧ GE g' z' ∧ I' = I1 ∧ P' = P1) ∨ (¬ k = 0 ∧ v' = some (.int ve) ∧ g' = g ∧ z' = z ∧ I' = I ∧ P' = P))
abbrev gE (g : wG) (z : wZ) : wG → wZ → Prop := fun g' z' => g' = g ∧ z' = z
abbrev gF (g : wG) (z : wZ) (sz : Nat) : wG → wZ → Prop := fun g' z' => (∃ a, wB g z sz a ∧ g' = gUp g 2 z.1 a) ∧ z' = (z.1 + 1, z.2)
abbrev gN (g : wG) (z : wZ) (sz : Nat) : wG → wZ → Prop := fun g' z' => (∃ b c, wB g z sz b ∧ wB g z sz c ∧ g' = gUp (gUp g 3 z.2 b) 11 z.2 c) ∧ z' = (z.1, z.2 + 1)
theorem Rq.ka {K : wK} {g0 : wG} {z0 : wZ} {sz : Nat} {I0 : wI} {P0 : wP} {O0 : wO} {mc ms : Nat} {post : wPost} {xp : String → Prop} (h : Rq K g0 z0 sz I0 P0 O0 mc ms post xp) {q : Nat} (hq : Ka K q) : wB g0 z0 sz q := by
  obtain ⟨p, l, e, R, s, m, args, below, meth, cd, Q, g, A⟩ := K
  obtain ⟨-, rfl, -⟩ := h
  exact hq
set_option maxRecDepth 20000 in
theorem w_c_plan {l : Launch} (hfl : l.stackTraces = false) {g : wG} {z : wZ} {I : wI} {P : wP} {O : wO} {x r w a y : Int32} (X : XI z I P) (hRF : RF z P) (hk1 : ¬ cK8 I P z.1 z.2 x r w a y = 1) (sz : Nat) : XT l yL_calls (.codeWith yL_calls cL_calls 8 (some .int) [(0, 127, 128, 41), (0, 127, 133, 44)]) { frames := 7, cells := 2, slots := 14, locals := 123 } g z sz [.ref (g.2.2 0 0), .int (nI 0), .int x, .int r, .int w, .int a, .int y] I P O 2 14 (LX (cK8 I P z.1 z.2 x r w a y) (nI z.2) (if cK8 I P z.1 z.2 x r w a y = 2 then -100002 else -100003) (gN g z sz) g z I P ((cO8 I P z.2 x r w a y).1) ((cO8 I P z.2 x r w a y).2) O) (fun _ => False) := by
  refine XT.ofH (own := RL) rfl (by decide +kernel) hfl (Nat.le_of_ble_eq_true rfl) rfl (fun K C hl hg hR hT => ?_)
  subst hl
  subst hg
  refine g_iload_n (pc' := 1) C dL_calls_0 rfl rfl ?_
  refine g_if_ne (tgt := 19) (pc' := 4) C dL_calls_1 (by decide) rfl (fun c1 => absurd (by decide) c1) (fun c1 => ?_)
  refine g_aload_n (pc' := 5) C dL_calls_4 rfl rfl ?_
  refine g_iload_n (pc' := 6) C dL_calls_5 rfl rfl ?_
  refine g_iload_n (pc' := 7) C dL_calls_6 rfl rfl ?_
  refine g_iload (pc' := 9) C dL_calls_7 rfl rfl ?_
  refine g_iload (pc' := 11) C dL_calls_9 rfl rfl ?_
  refine g_iload (pc' := 13) C dL_calls_11 rfl rfl ?_
  refine x_callV (pc' := 16) (mc := 2) (ms := 14) (As := [.int x, .int r, .int w, .int a, .int y]) (S := []) (post := fun sz => pN (cK8 I P z.1 z.2 x r w a y) (Kg K) z sz ((cO8 I P z.2 x r w a y).1) ((cO8 I P z.2 x r w a y).2) O) C hR.k cv_L_10 (fun sz => m_X3_plan hfl X hRF sz) dL_calls_13 (by first | assumption | exact rfl | exact al13 rfl | exact Nat.le_of_ble_eq_true rfl) rfl rfl ⟨rfl, by decide +kernel, by decide +kernel, (by decide +kernel : (parseMethodDescriptor yX3_plan.desc).map (fun d => d.parameters.length) = some 5)⟩ ⟨⟨Nat.le_of_ble_eq_true rfl, Nat.le_of_ble_eq_true rfl⟩, rfl, rfl⟩ rfl (Nat.le_of_ble_eq_true rfl) ⟨Nat.le_of_ble_eq_true rfl, Nat.le_of_ble_eq_true rfl⟩ rfl (fun E hE => ?_) (fun sz' v' g' z' I' P' O' hA' hp => ?_)
  · obtain ⟨j, hj, hk⟩ := hE
    simp only [List.mem_cons, List.not_mem_nil, or_false, Prod.mk.injEq] at hj
    rcases hj with ⟨rfl, rfl⟩ | ⟨rfl, rfl⟩ | ⟨rfl, rfl⟩
    · exact absurd hk hk1
    · refine x_catch C hR.k hT [] ⟨0, 127, 128, 41⟩ [⟨0, 127, 133, 44⟩] rfl (fun y hy => by cases hy) rfl (by decide) lkA (List.mem_of_getElem? (i := 1) rfl) (fun q => ?_)
      refine g_astore (pc' := 130) C dL_calls_128 rfl rfl ?_
      refine g_ldc (v := (-100002)) (pc' := 132) C kL_43 dL_calls_130 rfl ?_
      exact x_iret C hR dL_calls_132 (Nat.le_of_ble_eq_true rfl) (Nat.le_of_ble_eq_true rfl) ⟨rfl, Or.inr ⟨by rw [hk]; decide, by rw [hk]; rfl, rfl, rfl, rfl, rfl⟩⟩
    · refine x_catch C hR.k hT [⟨0, 127, 128, 41⟩] ⟨0, 127, 133, 44⟩ [] rfl (fun y hy => by
          simp only [List.mem_cons, List.not_mem_nil, or_false] at hy
          subst hy
          exact ⟨by decide, tA, lkA, List.mem_of_getElem? (i := 0) rfl⟩) rfl (by decide) lkS (List.mem_of_getElem? (i := 2) rfl) (fun q => ?_)
      refine g_astore (pc' := 135) C dL_calls_133 rfl rfl ?_
      refine g_ldc (v := (-100003)) (pc' := 137) C kL_46 dL_calls_135 rfl ?_
      exact x_iret C hR dL_calls_137 (Nat.le_of_ble_eq_true rfl) (Nat.le_of_ble_eq_true rfl) ⟨rfl, Or.inr ⟨by rw [hk]; decide, by rw [hk]; rfl, rfl, rfl, rfl, rfl⟩⟩
  · obtain ⟨hk, rfl, ⟨b, c, hb, hc, rfl⟩, rfl, rfl, rfl, rfl⟩ := hp
    have hb2 := hA' b hb
    have hc2 := hA' c hc
    have C' : Cx (Kw K (gUp (gUp (Kg K) 3 z.2 b) 11 z.2 c)) cL_calls RL 8 (some .int) _ (z.1, z.2 + 1) := C.up rfl rfl (fun k i hw => by
      rcases wAl_H hw with hw | ⟨rfl, rfl⟩ | ⟨rfl, rfl⟩
      · rw [gUp_H hw]; exact Cx.al C hw
      · rw [show (gUp (gUp (Kg K) 3 z.2 b) 11 z.2 c).2.2 3 z.2 = b from by show (if 3 = 11 ∧ z.2 = z.2 then c else if 3 = 3 ∧ z.2 = z.2 then b else (Kg K).2.2 3 z.2) = b; simp]; exact hb2
      · rw [show (gUp (gUp (Kg K) 3 z.2 b) 11 z.2 c).2.2 11 z.2 = c from if_pos ⟨rfl, rfl⟩]; exact hc2)
    have hR' := hR.up (gUp (gUp (Kg K) 3 z.2 b) 11 z.2 c)
    refine g_goto (K := Kw K (gUp (gUp (Kg K) 3 z.2 b) 11 z.2 c)) (tgt := 127) C' dL_calls_16 (by decide) ?_
    exact x_iret C' hR' dL_calls_127 (Nat.le_of_ble_eq_true rfl) (Nat.le_of_ble_eq_true rfl) ⟨rfl, Or.inl ⟨hk, rfl, ⟨⟨b, c, hR.ka hb2, hR.ka hc2, rfl⟩, rfl⟩, rfl, rfl⟩⟩
set_option maxRecDepth 20000 in
theorem w_c_move {l : Launch} (hfl : l.stackTraces = false) {g : wG} {z : wZ} {I : wI} {P : wP} {O : wO} {x r w a y : Int32} (X : XI z I P) (hk1 : ¬ cK9 I P z.2 x r w a = 1) (sz : Nat) : XT l yL_calls (.codeWith yL_calls cL_calls 8 (some .int) [(0, 127, 128, 41), (0, 127, 133, 44)]) { frames := 7, cells := 1, slots := 6, locals := 121 } g z sz [.ref (g.2.2 0 0), .int (nI 1), .int x, .int r, .int w, .int a, .int y] I P O 1 6 (LX (cK9 I P z.2 x r w a) ((cO9 I P x r w a).1 2 (mx (cO9 I P x r w a).2 x.toNatClampNeg) 6) (if cK9 I P z.2 x r w a = 2 then -100002 else -100003) (gE g z) g z I P ((cO9 I P x r w a).1) ((cO9 I P x r w a).2) O) (fun _ => False) := by
  refine XT.ofH (own := RL) rfl (by decide +kernel) hfl (Nat.le_of_ble_eq_true rfl) rfl (fun K C hl hg hR hT => ?_)
  subst hl
  subst hg
  refine g_iload_n (pc' := 1) C dL_calls_0 rfl rfl ?_
  refine g_if_ne (tgt := 19) (pc' := 4) C dL_calls_1 (by decide) rfl (fun c1 => ?_) (fun c1 => absurd c1 (by decide))
  refine g_iload_n (pc' := 20) C dL_calls_19 rfl rfl ?_
  refine g_iconst (v := nI 1) (pc' := 21) C dL_calls_20 (by decide) rfl ?_
  refine g_icmp_neN (tgt := 37) (pc' := 24) C (by omega) (by omega) dL_calls_21 (by decide) rfl (fun c2 => absurd rfl c2) (fun c2 => ?_)
  refine g_aload_n (pc' := 25) C dL_calls_24 rfl rfl ?_
  refine g_iload_n (pc' := 26) C dL_calls_25 rfl rfl ?_
  refine g_iload_n (pc' := 27) C dL_calls_26 rfl rfl ?_
  refine g_iload (pc' := 29) C dL_calls_27 rfl rfl ?_
  refine g_iload (pc' := 31) C dL_calls_29 rfl rfl ?_
  refine x_callV (pc' := 34) (mc := 1) (ms := 6) (As := [.int x, .int r, .int w, .int a]) (S := []) (post := fun _ => pX (cK9 I P z.2 x r w a) (Kg K) z (some (.int ((cO9 I P x r w a).1 2 (mx (cO9 I P x r w a).2 x.toNatClampNeg) 6))) ((cO9 I P x r w a).1) ((cO9 I P x r w a).2) O) C hR.k cv_L_16 (fun sz => m_X3_move hfl X sz) dL_calls_31 (by first | assumption | exact rfl | exact al13 rfl | exact Nat.le_of_ble_eq_true rfl) rfl rfl ⟨rfl, by decide +kernel, by decide +kernel, (by decide +kernel : (parseMethodDescriptor yX3_move.desc).map (fun d => d.parameters.length) = some 4)⟩ ⟨⟨Nat.le_of_ble_eq_true rfl, Nat.le_of_ble_eq_true rfl⟩, rfl, rfl⟩ rfl (Nat.le_of_ble_eq_true rfl) ⟨Nat.le_of_ble_eq_true rfl, Nat.le_of_ble_eq_true rfl⟩ rfl (fun E hE => ?_) (fun sz' v' g' z' I' P' O' hA' hp => ?_)
  · obtain ⟨j, hj, hk⟩ := hE
    simp only [List.mem_cons, List.not_mem_nil, or_false, Prod.mk.injEq] at hj
    rcases hj with ⟨rfl, rfl⟩ | ⟨rfl, rfl⟩ | ⟨rfl, rfl⟩
    · exact absurd hk hk1
    · refine x_catch C hR.k hT [] ⟨0, 127, 128, 41⟩ [⟨0, 127, 133, 44⟩] rfl (fun y hy => by cases hy) rfl (by decide) lkA (List.mem_of_getElem? (i := 1) rfl) (fun q => ?_)
      refine g_astore (pc' := 130) C dL_calls_128 rfl rfl ?_
      refine g_ldc (v := (-100002)) (pc' := 132) C kL_43 dL_calls_130 rfl ?_
      exact x_iret C hR dL_calls_132 (Nat.le_of_ble_eq_true rfl) (Nat.le_of_ble_eq_true rfl) ⟨rfl, Or.inr ⟨by rw [hk]; decide, by rw [hk]; rfl, rfl, rfl, rfl, rfl⟩⟩
    · refine x_catch C hR.k hT [⟨0, 127, 128, 41⟩] ⟨0, 127, 133, 44⟩ [] rfl (fun y hy => by
          simp only [List.mem_cons, List.not_mem_nil, or_false] at hy
          subst hy
          exact ⟨by decide, tA, lkA, List.mem_of_getElem? (i := 0) rfl⟩) rfl (by decide) lkS (List.mem_of_getElem? (i := 2) rfl) (fun q => ?_)
      refine g_astore (pc' := 135) C dL_calls_133 rfl rfl ?_
      refine g_ldc (v := (-100003)) (pc' := 137) C kL_46 dL_calls_135 rfl ?_
      exact x_iret C hR dL_calls_137 (Nat.le_of_ble_eq_true rfl) (Nat.le_of_ble_eq_true rfl) ⟨rfl, Or.inr ⟨by rw [hk]; decide, by rw [hk]; rfl, rfl, rfl, rfl, rfl⟩⟩
  · obtain ⟨hk, rfl, rfl, rfl, rfl, rfl, rfl⟩ := hp
    rw [Kw_self]
    refine g_goto (tgt := 127) C dL_calls_34 (by decide) ?_
    exact x_iret C hR dL_calls_127 (Nat.le_of_ble_eq_true rfl) (Nat.le_of_ble_eq_true rfl) ⟨rfl, Or.inl ⟨hk, rfl, ⟨rfl, rfl⟩, rfl, rfl⟩⟩
set_option maxRecDepth 20000 in
theorem w_c_drop {l : Launch} (hfl : l.stackTraces = false) {g : wG} {z : wZ} {I : wI} {P : wP} {O : wO} {x r w a y : Int32} (X : XI z I P) (hk1 : ¬ cK10 I z.2 x = 1) (sz : Nat) : XT l yL_calls (.codeWith yL_calls cL_calls 8 (some .int) [(0, 127, 128, 41), (0, 127, 133, 44)]) { frames := 7, cells := 1, slots := 6, locals := 112 } g z sz [.ref (g.2.2 0 0), .int (nI 2), .int x, .int r, .int w, .int a, .int y] I P O 1 6 (LX (cK10 I z.2 x) ((cO10 I P x).1 2 (mx (cO10 I P x).2 x.toNatClampNeg) 6) (-100003) (gE g z) g z I P ((cO10 I P x).1) ((cO10 I P x).2) O) (fun _ => False) := by
  refine XT.ofH (own := RL) rfl (by decide +kernel) hfl (Nat.le_of_ble_eq_true rfl) rfl (fun K C hl hg hR hT => ?_)
  subst hl
  subst hg
  refine g_iload_n (pc' := 1) C dL_calls_0 rfl rfl ?_
  refine g_if_ne (tgt := 19) (pc' := 4) C dL_calls_1 (by decide) rfl (fun c1 => ?_) (fun c1 => absurd c1 (by decide))
  refine g_iload_n (pc' := 20) C dL_calls_19 rfl rfl ?_
  refine g_iconst (v := nI 1) (pc' := 21) C dL_calls_20 (by decide) rfl ?_
  refine g_icmp_neN (tgt := 37) (pc' := 24) C (by omega) (by omega) dL_calls_21 (by decide) rfl (fun c2 => ?_) (fun c2 => absurd c2 (by decide))
  refine g_iload_n (pc' := 38) C dL_calls_37 rfl rfl ?_
  refine g_iconst (v := nI 2) (pc' := 39) C dL_calls_38 (by decide) rfl ?_
  refine g_icmp_neN (tgt := 50) (pc' := 42) C (by omega) (by omega) dL_calls_39 (by decide) rfl (fun c3 => absurd rfl c3) (fun c3 => ?_)
  refine g_aload_n (pc' := 43) C dL_calls_42 rfl rfl ?_
  refine g_iload_n (pc' := 44) C dL_calls_43 rfl rfl ?_
  refine x_callV (pc' := 47) (mc := 1) (ms := 6) (As := [.int x]) (S := []) (post := fun _ => pX (cK10 I z.2 x) (Kg K) z (some (.int ((cO10 I P x).1 2 (mx (cO10 I P x).2 x.toNatClampNeg) 6))) ((cO10 I P x).1) ((cO10 I P x).2) O) C hR.k cv_L_20 (fun sz => m_X3_drop hfl X sz) dL_calls_44 (by first | assumption | exact rfl | exact al13 rfl | exact Nat.le_of_ble_eq_true rfl) rfl rfl ⟨rfl, by decide +kernel, by decide +kernel, (by decide +kernel : (parseMethodDescriptor yX3_drop.desc).map (fun d => d.parameters.length) = some 1)⟩ ⟨⟨Nat.le_of_ble_eq_true rfl, Nat.le_of_ble_eq_true rfl⟩, rfl, rfl⟩ rfl (Nat.le_of_ble_eq_true rfl) ⟨Nat.le_of_ble_eq_true rfl, Nat.le_of_ble_eq_true rfl⟩ rfl (fun E hE => ?_) (fun sz' v' g' z' I' P' O' hA' hp => ?_)
  · obtain ⟨j, hj, hk⟩ := hE
    simp only [List.mem_cons, List.not_mem_nil, or_false, Prod.mk.injEq] at hj
    rcases hj with ⟨rfl, rfl⟩ | ⟨rfl, rfl⟩
    · exact absurd hk hk1
    · refine x_catch C hR.k hT [⟨0, 127, 128, 41⟩] ⟨0, 127, 133, 44⟩ [] rfl (fun y hy => by
          simp only [List.mem_cons, List.not_mem_nil, or_false] at hy
          subst hy
          exact ⟨by decide, tA, lkA, List.mem_of_getElem? (i := 0) rfl⟩) rfl (by decide) lkS (List.mem_of_getElem? (i := 2) rfl) (fun q => ?_)
      refine g_astore (pc' := 135) C dL_calls_133 rfl rfl ?_
      refine g_ldc (v := (-100003)) (pc' := 137) C kL_46 dL_calls_135 rfl ?_
      exact x_iret C hR dL_calls_137 (Nat.le_of_ble_eq_true rfl) (Nat.le_of_ble_eq_true rfl) ⟨rfl, Or.inr ⟨by rw [hk]; decide, rfl, rfl, rfl, rfl, rfl⟩⟩
  · obtain ⟨hk, rfl, rfl, rfl, rfl, rfl, rfl⟩ := hp
    rw [Kw_self]
    refine g_goto (tgt := 127) C dL_calls_47 (by decide) ?_
    exact x_iret C hR dL_calls_127 (Nat.le_of_ble_eq_true rfl) (Nat.le_of_ble_eq_true rfl) ⟨rfl, Or.inl ⟨hk, rfl, ⟨rfl, rfl⟩, rfl, rfl⟩⟩
set_option maxRecDepth 20000 in
theorem w_c_decide {l : Launch} (hfl : l.stackTraces = false) {g : wG} {z : wZ} {I : wI} {P : wP} {O : wO} {x r w a y : Int32} (X : XI z I P) (hk1 : ¬ cKs I z.1 x 1 = 1) (sz : Nat) : XT l yL_calls (.codeWith yL_calls cL_calls 8 (some .int) [(0, 127, 128, 41), (0, 127, 133, 44)]) { frames := 7, cells := 1, slots := 6, locals := 113 } g z sz [.ref (g.2.2 0 0), .int (nI 3), .int x, .int r, .int w, .int a, .int y] I P O 1 6 (LX (cKs I z.1 x 1) ((cO4 I P z x).2.2) (-100003) (gE g z) g z I P ((cO4 I P z x).1) ((cO4 I P z x).2.1) O) (fun _ => False) := by
  refine XT.ofH (own := RL) rfl (by decide +kernel) hfl (Nat.le_of_ble_eq_true rfl) rfl (fun K C hl hg hR hT => ?_)
  subst hl
  subst hg
  refine g_iload_n (pc' := 1) C dL_calls_0 rfl rfl ?_
  refine g_if_ne (tgt := 19) (pc' := 4) C dL_calls_1 (by decide) rfl (fun c1 => ?_) (fun c1 => absurd c1 (by decide))
  refine g_iload_n (pc' := 20) C dL_calls_19 rfl rfl ?_
  refine g_iconst (v := nI 1) (pc' := 21) C dL_calls_20 (by decide) rfl ?_
  refine g_icmp_neN (tgt := 37) (pc' := 24) C (by omega) (by omega) dL_calls_21 (by decide) rfl (fun c2 => ?_) (fun c2 => absurd c2 (by decide))
  refine g_iload_n (pc' := 38) C dL_calls_37 rfl rfl ?_
  refine g_iconst (v := nI 2) (pc' := 39) C dL_calls_38 (by decide) rfl ?_
  refine g_icmp_neN (tgt := 50) (pc' := 42) C (by omega) (by omega) dL_calls_39 (by decide) rfl (fun c3 => ?_) (fun c3 => absurd c3 (by decide))
  refine g_iload_n (pc' := 51) C dL_calls_50 rfl rfl ?_
  refine g_iconst (v := nI 3) (pc' := 52) C dL_calls_51 (by decide) rfl ?_
  refine g_icmp_neN (tgt := 63) (pc' := 55) C (by omega) (by omega) dL_calls_52 (by decide) rfl (fun c4 => absurd rfl c4) (fun c4 => ?_)
  refine g_aload_n (pc' := 56) C dL_calls_55 rfl rfl ?_
  refine g_iload_n (pc' := 57) C dL_calls_56 rfl rfl ?_
  refine x_callV (pc' := 60) (mc := 1) (ms := 6) (As := [.int x]) (S := []) (post := fun _ => pX (cKs I z.1 x 1) (Kg K) z (some (.int ((cO4 I P z x).2.2))) ((cO4 I P z x).1) ((cO4 I P z x).2.1) O) C hR.k cv_L_24 (fun sz => m_X3_decide hfl X sz) dL_calls_57 (by first | assumption | exact rfl | exact al13 rfl | exact Nat.le_of_ble_eq_true rfl) rfl rfl ⟨rfl, by decide +kernel, by decide +kernel, (by decide +kernel : (parseMethodDescriptor yX3_decide.desc).map (fun d => d.parameters.length) = some 1)⟩ ⟨⟨Nat.le_of_ble_eq_true rfl, Nat.le_of_ble_eq_true rfl⟩, rfl, rfl⟩ rfl (Nat.le_of_ble_eq_true rfl) ⟨Nat.le_of_ble_eq_true rfl, Nat.le_of_ble_eq_true rfl⟩ rfl (fun E hE => ?_) (fun sz' v' g' z' I' P' O' hA' hp => ?_)
  · obtain ⟨j, hj, hk⟩ := hE
    simp only [List.mem_cons, List.not_mem_nil, or_false, Prod.mk.injEq] at hj
    rcases hj with ⟨rfl, rfl⟩ | ⟨rfl, rfl⟩
    · exact absurd hk hk1
    · refine x_catch C hR.k hT [⟨0, 127, 128, 41⟩] ⟨0, 127, 133, 44⟩ [] rfl (fun y hy => by
          simp only [List.mem_cons, List.not_mem_nil, or_false] at hy
          subst hy
          exact ⟨by decide, tA, lkA, List.mem_of_getElem? (i := 0) rfl⟩) rfl (by decide) lkS (List.mem_of_getElem? (i := 2) rfl) (fun q => ?_)
      refine g_astore (pc' := 135) C dL_calls_133 rfl rfl ?_
      refine g_ldc (v := (-100003)) (pc' := 137) C kL_46 dL_calls_135 rfl ?_
      exact x_iret C hR dL_calls_137 (Nat.le_of_ble_eq_true rfl) (Nat.le_of_ble_eq_true rfl) ⟨rfl, Or.inr ⟨by rw [hk]; decide, rfl, rfl, rfl, rfl, rfl⟩⟩
  · obtain ⟨hk, rfl, rfl, rfl, rfl, rfl, rfl⟩ := hp
    rw [Kw_self]
    refine g_goto (tgt := 127) C dL_calls_60 (by decide) ?_
    exact x_iret C hR dL_calls_127 (Nat.le_of_ble_eq_true rfl) (Nat.le_of_ble_eq_true rfl) ⟨rfl, Or.inl ⟨hk, rfl, ⟨rfl, rfl⟩, rfl, rfl⟩⟩
set_option maxRecDepth 20000 in
theorem w_c_appeal {l : Launch} (hfl : l.stackTraces = false) {g : wG} {z : wZ} {I : wI} {P : wP} {O : wO} {x r w a y : Int32} (X : XI z I P) (hk1 : ¬ cK5 I z.1 x = 1) (sz : Nat) : XT l yL_calls (.codeWith yL_calls cL_calls 8 (some .int) [(0, 127, 128, 41), (0, 127, 133, 44)]) { frames := 7, cells := 1, slots := 6, locals := 112 } g z sz [.ref (g.2.2 0 0), .int (nI 4), .int x, .int r, .int w, .int a, .int y] I P O 1 6 (LX (cK5 I z.1 x) (I 2 x.toNatClampNeg 6 - ff I x.toNatClampNeg 80) (-100003) (gE g z) g z I P (cO5 I x) (P) O) (fun _ => False) := by
  refine XT.ofH (own := RL) rfl (by decide +kernel) hfl (Nat.le_of_ble_eq_true rfl) rfl (fun K C hl hg hR hT => ?_)
  subst hl
  subst hg
  refine g_iload_n (pc' := 1) C dL_calls_0 rfl rfl ?_
  refine g_if_ne (tgt := 19) (pc' := 4) C dL_calls_1 (by decide) rfl (fun c1 => ?_) (fun c1 => absurd c1 (by decide))
  refine g_iload_n (pc' := 20) C dL_calls_19 rfl rfl ?_
  refine g_iconst (v := nI 1) (pc' := 21) C dL_calls_20 (by decide) rfl ?_
  refine g_icmp_neN (tgt := 37) (pc' := 24) C (by omega) (by omega) dL_calls_21 (by decide) rfl (fun c2 => ?_) (fun c2 => absurd c2 (by decide))
  refine g_iload_n (pc' := 38) C dL_calls_37 rfl rfl ?_
  refine g_iconst (v := nI 2) (pc' := 39) C dL_calls_38 (by decide) rfl ?_
  refine g_icmp_neN (tgt := 50) (pc' := 42) C (by omega) (by omega) dL_calls_39 (by decide) rfl (fun c3 => ?_) (fun c3 => absurd c3 (by decide))
  refine g_iload_n (pc' := 51) C dL_calls_50 rfl rfl ?_
  refine g_iconst (v := nI 3) (pc' := 52) C dL_calls_51 (by decide) rfl ?_
  refine g_icmp_neN (tgt := 63) (pc' := 55) C (by omega) (by omega) dL_calls_52 (by decide) rfl (fun c4 => ?_) (fun c4 => absurd c4 (by decide))
  refine g_iload_n (pc' := 64) C dL_calls_63 rfl rfl ?_
  refine g_iconst (v := nI 4) (pc' := 65) C dL_calls_64 (by decide) rfl ?_
  refine g_icmp_neN (tgt := 76) (pc' := 68) C (by omega) (by omega) dL_calls_65 (by decide) rfl (fun c5 => absurd rfl c5) (fun c5 => ?_)
  refine g_aload_n (pc' := 69) C dL_calls_68 rfl rfl ?_
  refine g_iload_n (pc' := 70) C dL_calls_69 rfl rfl ?_
  refine x_callV (pc' := 73) (mc := 1) (ms := 6) (As := [.int x]) (S := []) (post := fun _ => pX (cK5 I z.1 x) (Kg K) z (some (.int (I 2 x.toNatClampNeg 6 - ff I x.toNatClampNeg 80))) (cO5 I x) (P) O) C hR.k cv_L_27 (fun sz => m_X3_appeal hfl X sz) dL_calls_70 (by first | assumption | exact rfl | exact al13 rfl | exact Nat.le_of_ble_eq_true rfl) rfl rfl ⟨rfl, by decide +kernel, by decide +kernel, (by decide +kernel : (parseMethodDescriptor yX3_appeal.desc).map (fun d => d.parameters.length) = some 1)⟩ ⟨⟨Nat.le_of_ble_eq_true rfl, Nat.le_of_ble_eq_true rfl⟩, rfl, rfl⟩ rfl (Nat.le_of_ble_eq_true rfl) ⟨Nat.le_of_ble_eq_true rfl, Nat.le_of_ble_eq_true rfl⟩ rfl (fun E hE => ?_) (fun sz' v' g' z' I' P' O' hA' hp => ?_)
  · obtain ⟨j, hj, hk⟩ := hE
    simp only [List.mem_cons, List.not_mem_nil, or_false, Prod.mk.injEq] at hj
    rcases hj with ⟨rfl, rfl⟩ | ⟨rfl, rfl⟩
    · exact absurd hk hk1
    · refine x_catch C hR.k hT [⟨0, 127, 128, 41⟩] ⟨0, 127, 133, 44⟩ [] rfl (fun y hy => by
          simp only [List.mem_cons, List.not_mem_nil, or_false] at hy
          subst hy
          exact ⟨by decide, tA, lkA, List.mem_of_getElem? (i := 0) rfl⟩) rfl (by decide) lkS (List.mem_of_getElem? (i := 2) rfl) (fun q => ?_)
      refine g_astore (pc' := 135) C dL_calls_133 rfl rfl ?_
      refine g_ldc (v := (-100003)) (pc' := 137) C kL_46 dL_calls_135 rfl ?_
      exact x_iret C hR dL_calls_137 (Nat.le_of_ble_eq_true rfl) (Nat.le_of_ble_eq_true rfl) ⟨rfl, Or.inr ⟨by rw [hk]; decide, rfl, rfl, rfl, rfl, rfl⟩⟩
  · obtain ⟨hk, rfl, rfl, rfl, rfl, rfl, rfl⟩ := hp
    rw [Kw_self]
    refine g_goto (tgt := 127) C dL_calls_73 (by decide) ?_
    exact x_iret C hR dL_calls_127 (Nat.le_of_ble_eq_true rfl) (Nat.le_of_ble_eq_true rfl) ⟨rfl, Or.inl ⟨hk, rfl, ⟨rfl, rfl⟩, rfl, rfl⟩⟩
set_option maxRecDepth 20000 in
theorem w_c_settle1 {l : Launch} (hfl : l.stackTraces = false) {g : wG} {z : wZ} {I : wI} {P : wP} {O : wO} {x q3 q4 q5 : Int32} (X : XI z I P) (hk1 : ¬ cKs I z.1 x 3 = 1) (sz : Nat) : XT l yL_calls (.codeWith yL_calls cL_calls 8 (some .int) [(0, 127, 128, 41), (0, 127, 133, 44)]) { frames := 7, cells := 1, slots := 6, locals := 113 } g z sz [.ref (g.2.2 0 0), .int (nI 5), .int x, .int (nI 1), .int q3, .int q4, .int q5] I P O 1 6 (LX (cKs I z.1 x 3) (I 2 x.toNatClampNeg 7) (-100003) (gE g z) g z I P (upI I 2 x.toNatClampNeg 5 (if nI 1 = 0 then 2 else 0)) (P) O) (fun _ => False) := by
  refine XT.ofH (own := RL) rfl (by decide +kernel) hfl (Nat.le_of_ble_eq_true rfl) rfl (fun K C hl hg hR hT => ?_)
  subst hl
  subst hg
  refine g_iload_n (pc' := 1) C dL_calls_0 rfl rfl ?_
  refine g_if_ne (tgt := 19) (pc' := 4) C dL_calls_1 (by decide) rfl (fun c1 => ?_) (fun c1 => absurd c1 (by decide))
  refine g_iload_n (pc' := 20) C dL_calls_19 rfl rfl ?_
  refine g_iconst (v := nI 1) (pc' := 21) C dL_calls_20 (by decide) rfl ?_
  refine g_icmp_neN (tgt := 37) (pc' := 24) C (by omega) (by omega) dL_calls_21 (by decide) rfl (fun c2 => ?_) (fun c2 => absurd c2 (by decide))
  refine g_iload_n (pc' := 38) C dL_calls_37 rfl rfl ?_
  refine g_iconst (v := nI 2) (pc' := 39) C dL_calls_38 (by decide) rfl ?_
  refine g_icmp_neN (tgt := 50) (pc' := 42) C (by omega) (by omega) dL_calls_39 (by decide) rfl (fun c3 => ?_) (fun c3 => absurd c3 (by decide))
  refine g_iload_n (pc' := 51) C dL_calls_50 rfl rfl ?_
  refine g_iconst (v := nI 3) (pc' := 52) C dL_calls_51 (by decide) rfl ?_
  refine g_icmp_neN (tgt := 63) (pc' := 55) C (by omega) (by omega) dL_calls_52 (by decide) rfl (fun c4 => ?_) (fun c4 => absurd c4 (by decide))
  refine g_iload_n (pc' := 64) C dL_calls_63 rfl rfl ?_
  refine g_iconst (v := nI 4) (pc' := 65) C dL_calls_64 (by decide) rfl ?_
  refine g_icmp_neN (tgt := 76) (pc' := 68) C (by omega) (by omega) dL_calls_65 (by decide) rfl (fun c5 => ?_) (fun c5 => absurd c5 (by decide))
  refine g_iload_n (pc' := 77) C dL_calls_76 rfl rfl ?_
  refine g_iconst (v := nI 5) (pc' := 78) C dL_calls_77 (by decide) rfl ?_
  refine g_icmp_neN (tgt := 99) (pc' := 81) C (by omega) (by omega) dL_calls_78 (by decide) rfl (fun c6 => absurd rfl c6) (fun c6 => ?_)
  refine g_aload_n (pc' := 82) C dL_calls_81 rfl rfl ?_
  refine g_iload_n (pc' := 83) C dL_calls_82 rfl rfl ?_
  refine g_iload_n (pc' := 84) C dL_calls_83 rfl rfl ?_
  refine g_iconst (v := nI 1) (pc' := 85) C dL_calls_84 (by decide) rfl ?_
  refine g_icmp_neN (tgt := 92) (pc' := 88) C (by omega) (by omega) dL_calls_85 (by decide) rfl (fun c7 => absurd rfl c7) (fun c7 => ?_)
  refine g_iconst (v := nI 1) (pc' := 89) C dL_calls_88 (by decide) rfl ?_
  refine g_goto (tgt := 93) C dL_calls_89 (by decide) ?_
  refine x_callV (pc' := 96) (mc := 1) (ms := 6) (As := [.int x, .int (nI 1)]) (S := []) (post := fun _ => pX (cKs I z.1 x 3) (Kg K) z (some (.int (I 2 x.toNatClampNeg 7))) (upI I 2 x.toNatClampNeg 5 (if nI 1 = 0 then 2 else 0)) (P) O) C hR.k cv_L_30 (fun sz => m_X3_settle hfl X sz) dL_calls_93 (by first | assumption | exact rfl | exact al13 rfl | exact Nat.le_of_ble_eq_true rfl) rfl rfl ⟨rfl, by decide +kernel, by decide +kernel, (by decide +kernel : (parseMethodDescriptor yX3_settle.desc).map (fun d => d.parameters.length) = some 2)⟩ ⟨⟨Nat.le_of_ble_eq_true rfl, Nat.le_of_ble_eq_true rfl⟩, rfl, rfl⟩ rfl (Nat.le_of_ble_eq_true rfl) ⟨Nat.le_of_ble_eq_true rfl, Nat.le_of_ble_eq_true rfl⟩ rfl (fun E hE => ?_) (fun sz' v' g' z' I' P' O' hA' hp => ?_)
  · obtain ⟨j, hj, hk⟩ := hE
    simp only [List.mem_cons, List.not_mem_nil, or_false, Prod.mk.injEq] at hj
    rcases hj with ⟨rfl, rfl⟩ | ⟨rfl, rfl⟩
    · exact absurd hk hk1
    · refine x_catch C hR.k hT [⟨0, 127, 128, 41⟩] ⟨0, 127, 133, 44⟩ [] rfl (fun y hy => by
          simp only [List.mem_cons, List.not_mem_nil, or_false] at hy
          subst hy
          exact ⟨by decide, tA, lkA, List.mem_of_getElem? (i := 0) rfl⟩) rfl (by decide) lkS (List.mem_of_getElem? (i := 2) rfl) (fun q => ?_)
      refine g_astore (pc' := 135) C dL_calls_133 rfl rfl ?_
      refine g_ldc (v := (-100003)) (pc' := 137) C kL_46 dL_calls_135 rfl ?_
      exact x_iret C hR dL_calls_137 (Nat.le_of_ble_eq_true rfl) (Nat.le_of_ble_eq_true rfl) ⟨rfl, Or.inr ⟨by rw [hk]; decide, rfl, rfl, rfl, rfl, rfl⟩⟩
  · obtain ⟨hk, rfl, rfl, rfl, rfl, rfl, rfl⟩ := hp
    rw [Kw_self]
    refine g_goto (tgt := 127) C dL_calls_96 (by decide) ?_
    exact x_iret C hR dL_calls_127 (Nat.le_of_ble_eq_true rfl) (Nat.le_of_ble_eq_true rfl) ⟨rfl, Or.inl ⟨hk, rfl, ⟨rfl, rfl⟩, rfl, rfl⟩⟩
set_option maxRecDepth 20000 in
theorem w_c_settle0 {l : Launch} (hfl : l.stackTraces = false) {g : wG} {z : wZ} {I : wI} {P : wP} {O : wO} {x q3 q4 q5 : Int32} (X : XI z I P) (hk1 : ¬ cKs I z.1 x 3 = 1) (sz : Nat) : XT l yL_calls (.codeWith yL_calls cL_calls 8 (some .int) [(0, 127, 128, 41), (0, 127, 133, 44)]) { frames := 7, cells := 1, slots := 6, locals := 113 } g z sz [.ref (g.2.2 0 0), .int (nI 5), .int x, .int (nI 0), .int q3, .int q4, .int q5] I P O 1 6 (LX (cKs I z.1 x 3) (I 2 x.toNatClampNeg 7) (-100003) (gE g z) g z I P (upI I 2 x.toNatClampNeg 5 (if nI 0 = 0 then 2 else 0)) (P) O) (fun _ => False) := by
  refine XT.ofH (own := RL) rfl (by decide +kernel) hfl (Nat.le_of_ble_eq_true rfl) rfl (fun K C hl hg hR hT => ?_)
  subst hl
  subst hg
  refine g_iload_n (pc' := 1) C dL_calls_0 rfl rfl ?_
  refine g_if_ne (tgt := 19) (pc' := 4) C dL_calls_1 (by decide) rfl (fun c1 => ?_) (fun c1 => absurd c1 (by decide))
  refine g_iload_n (pc' := 20) C dL_calls_19 rfl rfl ?_
  refine g_iconst (v := nI 1) (pc' := 21) C dL_calls_20 (by decide) rfl ?_
  refine g_icmp_neN (tgt := 37) (pc' := 24) C (by omega) (by omega) dL_calls_21 (by decide) rfl (fun c2 => ?_) (fun c2 => absurd c2 (by decide))
  refine g_iload_n (pc' := 38) C dL_calls_37 rfl rfl ?_
  refine g_iconst (v := nI 2) (pc' := 39) C dL_calls_38 (by decide) rfl ?_
  refine g_icmp_neN (tgt := 50) (pc' := 42) C (by omega) (by omega) dL_calls_39 (by decide) rfl (fun c3 => ?_) (fun c3 => absurd c3 (by decide))
  refine g_iload_n (pc' := 51) C dL_calls_50 rfl rfl ?_
  refine g_iconst (v := nI 3) (pc' := 52) C dL_calls_51 (by decide) rfl ?_
  refine g_icmp_neN (tgt := 63) (pc' := 55) C (by omega) (by omega) dL_calls_52 (by decide) rfl (fun c4 => ?_) (fun c4 => absurd c4 (by decide))
  refine g_iload_n (pc' := 64) C dL_calls_63 rfl rfl ?_
  refine g_iconst (v := nI 4) (pc' := 65) C dL_calls_64 (by decide) rfl ?_
  refine g_icmp_neN (tgt := 76) (pc' := 68) C (by omega) (by omega) dL_calls_65 (by decide) rfl (fun c5 => ?_) (fun c5 => absurd c5 (by decide))
  refine g_iload_n (pc' := 77) C dL_calls_76 rfl rfl ?_
  refine g_iconst (v := nI 5) (pc' := 78) C dL_calls_77 (by decide) rfl ?_
  refine g_icmp_neN (tgt := 99) (pc' := 81) C (by omega) (by omega) dL_calls_78 (by decide) rfl (fun c6 => absurd rfl c6) (fun c6 => ?_)
  refine g_aload_n (pc' := 82) C dL_calls_81 rfl rfl ?_
  refine g_iload_n (pc' := 83) C dL_calls_82 rfl rfl ?_
  refine g_iload_n (pc' := 84) C dL_calls_83 rfl rfl ?_
  refine g_iconst (v := nI 1) (pc' := 85) C dL_calls_84 (by decide) rfl ?_
  refine g_icmp_neN (tgt := 92) (pc' := 88) C (by omega) (by omega) dL_calls_85 (by decide) rfl (fun c7 => ?_) (fun c7 => absurd c7 (by decide))
  refine g_iconst (v := nI 0) (pc' := 93) C dL_calls_92 (by decide) rfl ?_
  refine x_callV (pc' := 96) (mc := 1) (ms := 6) (As := [.int x, .int (nI 0)]) (S := []) (post := fun _ => pX (cKs I z.1 x 3) (Kg K) z (some (.int (I 2 x.toNatClampNeg 7))) (upI I 2 x.toNatClampNeg 5 (if nI 0 = 0 then 2 else 0)) (P) O) C hR.k cv_L_30 (fun sz => m_X3_settle hfl X sz) dL_calls_93 (by first | assumption | exact rfl | exact al13 rfl | exact Nat.le_of_ble_eq_true rfl) rfl rfl ⟨rfl, by decide +kernel, by decide +kernel, (by decide +kernel : (parseMethodDescriptor yX3_settle.desc).map (fun d => d.parameters.length) = some 2)⟩ ⟨⟨Nat.le_of_ble_eq_true rfl, Nat.le_of_ble_eq_true rfl⟩, rfl, rfl⟩ rfl (Nat.le_of_ble_eq_true rfl) ⟨Nat.le_of_ble_eq_true rfl, Nat.le_of_ble_eq_true rfl⟩ rfl (fun E hE => ?_) (fun sz' v' g' z' I' P' O' hA' hp => ?_)
  · obtain ⟨j, hj, hk⟩ := hE
    simp only [List.mem_cons, List.not_mem_nil, or_false, Prod.mk.injEq] at hj
    rcases hj with ⟨rfl, rfl⟩ | ⟨rfl, rfl⟩
    · exact absurd hk hk1
    · refine x_catch C hR.k hT [⟨0, 127, 128, 41⟩] ⟨0, 127, 133, 44⟩ [] rfl (fun y hy => by
          simp only [List.mem_cons, List.not_mem_nil, or_false] at hy
          subst hy
          exact ⟨by decide, tA, lkA, List.mem_of_getElem? (i := 0) rfl⟩) rfl (by decide) lkS (List.mem_of_getElem? (i := 2) rfl) (fun q => ?_)
      refine g_astore (pc' := 135) C dL_calls_133 rfl rfl ?_
      refine g_ldc (v := (-100003)) (pc' := 137) C kL_46 dL_calls_135 rfl ?_
      exact x_iret C hR dL_calls_137 (Nat.le_of_ble_eq_true rfl) (Nat.le_of_ble_eq_true rfl) ⟨rfl, Or.inr ⟨by rw [hk]; decide, rfl, rfl, rfl, rfl, rfl⟩⟩
  · obtain ⟨hk, rfl, rfl, rfl, rfl, rfl, rfl⟩ := hp
    rw [Kw_self]
    refine g_goto (tgt := 127) C dL_calls_96 (by decide) ?_
    exact x_iret C hR dL_calls_127 (Nat.le_of_ble_eq_true rfl) (Nat.le_of_ble_eq_true rfl) ⟨rfl, Or.inl ⟨hk, rfl, ⟨rfl, rfl⟩, rfl, rfl⟩⟩
set_option maxRecDepth 20000 in
theorem w_c_close {l : Launch} (hfl : l.stackTraces = false) {g : wG} {z : wZ} {I : wI} {P : wP} {O : wO} {x r w a y : Int32} (X : XI z I P) (hk1 : ¬ cKs I z.1 x 2 = 1) (sz : Nat) : XT l yL_calls (.codeWith yL_calls cL_calls 8 (some .int) [(0, 127, 128, 41), (0, 127, 133, 44)]) { frames := 7, cells := 1, slots := 6, locals := 112 } g z sz [.ref (g.2.2 0 0), .int (nI 6), .int x, .int r, .int w, .int a, .int y] I P O 1 6 (LX (cKs I z.1 x 2) (I 2 x.toNatClampNeg 6) (-100003) (gE g z) g z I P (upI I 2 x.toNatClampNeg 5 4) (P) O) (fun _ => False) := by
  refine XT.ofH (own := RL) rfl (by decide +kernel) hfl (Nat.le_of_ble_eq_true rfl) rfl (fun K C hl hg hR hT => ?_)
  subst hl
  subst hg
  refine g_iload_n (pc' := 1) C dL_calls_0 rfl rfl ?_
  refine g_if_ne (tgt := 19) (pc' := 4) C dL_calls_1 (by decide) rfl (fun c1 => ?_) (fun c1 => absurd c1 (by decide))
  refine g_iload_n (pc' := 20) C dL_calls_19 rfl rfl ?_
  refine g_iconst (v := nI 1) (pc' := 21) C dL_calls_20 (by decide) rfl ?_
  refine g_icmp_neN (tgt := 37) (pc' := 24) C (by omega) (by omega) dL_calls_21 (by decide) rfl (fun c2 => ?_) (fun c2 => absurd c2 (by decide))
  refine g_iload_n (pc' := 38) C dL_calls_37 rfl rfl ?_
  refine g_iconst (v := nI 2) (pc' := 39) C dL_calls_38 (by decide) rfl ?_
  refine g_icmp_neN (tgt := 50) (pc' := 42) C (by omega) (by omega) dL_calls_39 (by decide) rfl (fun c3 => ?_) (fun c3 => absurd c3 (by decide))
  refine g_iload_n (pc' := 51) C dL_calls_50 rfl rfl ?_
  refine g_iconst (v := nI 3) (pc' := 52) C dL_calls_51 (by decide) rfl ?_
  refine g_icmp_neN (tgt := 63) (pc' := 55) C (by omega) (by omega) dL_calls_52 (by decide) rfl (fun c4 => ?_) (fun c4 => absurd c4 (by decide))
  refine g_iload_n (pc' := 64) C dL_calls_63 rfl rfl ?_
  refine g_iconst (v := nI 4) (pc' := 65) C dL_calls_64 (by decide) rfl ?_
  refine g_icmp_neN (tgt := 76) (pc' := 68) C (by omega) (by omega) dL_calls_65 (by decide) rfl (fun c5 => ?_) (fun c5 => absurd c5 (by decide))
  refine g_iload_n (pc' := 77) C dL_calls_76 rfl rfl ?_
  refine g_iconst (v := nI 5) (pc' := 78) C dL_calls_77 (by decide) rfl ?_
  refine g_icmp_neN (tgt := 99) (pc' := 81) C (by omega) (by omega) dL_calls_78 (by decide) rfl (fun c6 => ?_) (fun c6 => absurd c6 (by decide))
  refine g_iload_n (pc' := 100) C dL_calls_99 rfl rfl ?_
  refine g_bipush (v := nI 6) (pc' := 102) C dL_calls_100 (by decide) rfl ?_
  refine g_icmp_neN (tgt := 113) (pc' := 105) C (by omega) (by omega) dL_calls_102 (by decide) rfl (fun c7 => absurd rfl c7) (fun c7 => ?_)
  refine g_aload_n (pc' := 106) C dL_calls_105 rfl rfl ?_
  refine g_iload_n (pc' := 107) C dL_calls_106 rfl rfl ?_
  refine x_callV (pc' := 110) (mc := 1) (ms := 6) (As := [.int x]) (S := []) (post := fun _ => pX (cKs I z.1 x 2) (Kg K) z (some (.int (I 2 x.toNatClampNeg 6))) (upI I 2 x.toNatClampNeg 5 4) (P) O) C hR.k cv_L_34 (fun sz => m_X3_close hfl X sz) dL_calls_107 (by first | assumption | exact rfl | exact al13 rfl | exact Nat.le_of_ble_eq_true rfl) rfl rfl ⟨rfl, by decide +kernel, by decide +kernel, (by decide +kernel : (parseMethodDescriptor yX3_close.desc).map (fun d => d.parameters.length) = some 1)⟩ ⟨⟨Nat.le_of_ble_eq_true rfl, Nat.le_of_ble_eq_true rfl⟩, rfl, rfl⟩ rfl (Nat.le_of_ble_eq_true rfl) ⟨Nat.le_of_ble_eq_true rfl, Nat.le_of_ble_eq_true rfl⟩ rfl (fun E hE => ?_) (fun sz' v' g' z' I' P' O' hA' hp => ?_)
  · obtain ⟨j, hj, hk⟩ := hE
    simp only [List.mem_cons, List.not_mem_nil, or_false, Prod.mk.injEq] at hj
    rcases hj with ⟨rfl, rfl⟩ | ⟨rfl, rfl⟩
    · exact absurd hk hk1
    · refine x_catch C hR.k hT [⟨0, 127, 128, 41⟩] ⟨0, 127, 133, 44⟩ [] rfl (fun y hy => by
          simp only [List.mem_cons, List.not_mem_nil, or_false] at hy
          subst hy
          exact ⟨by decide, tA, lkA, List.mem_of_getElem? (i := 0) rfl⟩) rfl (by decide) lkS (List.mem_of_getElem? (i := 2) rfl) (fun q => ?_)
      refine g_astore (pc' := 135) C dL_calls_133 rfl rfl ?_
      refine g_ldc (v := (-100003)) (pc' := 137) C kL_46 dL_calls_135 rfl ?_
      exact x_iret C hR dL_calls_137 (Nat.le_of_ble_eq_true rfl) (Nat.le_of_ble_eq_true rfl) ⟨rfl, Or.inr ⟨by rw [hk]; decide, rfl, rfl, rfl, rfl, rfl⟩⟩
  · obtain ⟨hk, rfl, rfl, rfl, rfl, rfl, rfl⟩ := hp
    rw [Kw_self]
    refine g_goto (tgt := 127) C dL_calls_110 (by decide) ?_
    exact x_iret C hR dL_calls_127 (Nat.le_of_ble_eq_true rfl) (Nat.le_of_ble_eq_true rfl) ⟨rfl, Or.inl ⟨hk, rfl, ⟨rfl, rfl⟩, rfl, rfl⟩⟩
set_option maxRecDepth 20000 in
theorem w_c_notice {l : Launch} (hfl : l.stackTraces = false) {g : wG} {z : wZ} {I : wI} {P : wP} {O : wO} {x y q3 q4 q5 : Int32} (X : XI z I P) (hk1 : ¬ cK11 I P z.2 x y = 1) (sz : Nat) : XT l yL_calls (.codeWith yL_calls cL_calls 8 (some .int) [(0, 127, 128, 41), (0, 127, 133, 44)]) { frames := 7, cells := 1, slots := 6, locals := 114 } g z sz [.ref (g.2.2 0 0), .int (nI 7), .int x, .int y, .int q3, .int q4, .int q5] I P O 1 6 (LX (cK11 I P z.2 x y) ((if (cO11 I P x y).2 = 0 then 0 else 1)) (if cK11 I P z.2 x y = 2 then -100002 else -100003) (gE g z) g z I P ((cO11 I P x y).1) (P) O) (fun _ => False) := by
  refine XT.ofH (own := RL) rfl (by decide +kernel) hfl (Nat.le_of_ble_eq_true rfl) rfl (fun K C hl hg hR hT => ?_)
  subst hl
  subst hg
  refine g_iload_n (pc' := 1) C dL_calls_0 rfl rfl ?_
  refine g_if_ne (tgt := 19) (pc' := 4) C dL_calls_1 (by decide) rfl (fun c1 => ?_) (fun c1 => absurd c1 (by decide))
  refine g_iload_n (pc' := 20) C dL_calls_19 rfl rfl ?_
  refine g_iconst (v := nI 1) (pc' := 21) C dL_calls_20 (by decide) rfl ?_
  refine g_icmp_neN (tgt := 37) (pc' := 24) C (by omega) (by omega) dL_calls_21 (by decide) rfl (fun c2 => ?_) (fun c2 => absurd c2 (by decide))
  refine g_iload_n (pc' := 38) C dL_calls_37 rfl rfl ?_
  refine g_iconst (v := nI 2) (pc' := 39) C dL_calls_38 (by decide) rfl ?_
  refine g_icmp_neN (tgt := 50) (pc' := 42) C (by omega) (by omega) dL_calls_39 (by decide) rfl (fun c3 => ?_) (fun c3 => absurd c3 (by decide))
  refine g_iload_n (pc' := 51) C dL_calls_50 rfl rfl ?_
  refine g_iconst (v := nI 3) (pc' := 52) C dL_calls_51 (by decide) rfl ?_
  refine g_icmp_neN (tgt := 63) (pc' := 55) C (by omega) (by omega) dL_calls_52 (by decide) rfl (fun c4 => ?_) (fun c4 => absurd c4 (by decide))
  refine g_iload_n (pc' := 64) C dL_calls_63 rfl rfl ?_
  refine g_iconst (v := nI 4) (pc' := 65) C dL_calls_64 (by decide) rfl ?_
  refine g_icmp_neN (tgt := 76) (pc' := 68) C (by omega) (by omega) dL_calls_65 (by decide) rfl (fun c5 => ?_) (fun c5 => absurd c5 (by decide))
  refine g_iload_n (pc' := 77) C dL_calls_76 rfl rfl ?_
  refine g_iconst (v := nI 5) (pc' := 78) C dL_calls_77 (by decide) rfl ?_
  refine g_icmp_neN (tgt := 99) (pc' := 81) C (by omega) (by omega) dL_calls_78 (by decide) rfl (fun c6 => ?_) (fun c6 => absurd c6 (by decide))
  refine g_iload_n (pc' := 100) C dL_calls_99 rfl rfl ?_
  refine g_bipush (v := nI 6) (pc' := 102) C dL_calls_100 (by decide) rfl ?_
  refine g_icmp_neN (tgt := 113) (pc' := 105) C (by omega) (by omega) dL_calls_102 (by decide) rfl (fun c7 => ?_) (fun c7 => absurd c7 (by decide))
  refine g_aload_n (pc' := 114) C dL_calls_113 rfl rfl ?_
  refine g_iload_n (pc' := 115) C dL_calls_114 rfl rfl ?_
  refine g_iload_n (pc' := 116) C dL_calls_115 rfl rfl ?_
  refine x_callV (pc' := 119) (mc := 1) (ms := 6) (As := [.int x, .int y]) (S := []) (post := fun _ => pX (cK11 I P z.2 x y) (Kg K) z (some (.int ((cO11 I P x y).2))) ((cO11 I P x y).1) (P) O) C hR.k cv_L_37 (fun sz => m_X3_notice hfl X sz) dL_calls_116 (by first | assumption | exact rfl | exact al13 rfl | exact Nat.le_of_ble_eq_true rfl) rfl rfl ⟨rfl, by decide +kernel, by decide +kernel, (by decide +kernel : (parseMethodDescriptor yX3_notice.desc).map (fun d => d.parameters.length) = some 2)⟩ ⟨⟨Nat.le_of_ble_eq_true rfl, Nat.le_of_ble_eq_true rfl⟩, rfl, rfl⟩ rfl (Nat.le_of_ble_eq_true rfl) ⟨Nat.le_of_ble_eq_true rfl, Nat.le_of_ble_eq_true rfl⟩ rfl (fun E hE => ?_) (fun sz' v' g' z' I' P' O' hA' hp => ?_)
  · obtain ⟨j, hj, hk⟩ := hE
    simp only [List.mem_cons, List.not_mem_nil, or_false, Prod.mk.injEq] at hj
    rcases hj with ⟨rfl, rfl⟩ | ⟨rfl, rfl⟩ | ⟨rfl, rfl⟩
    · exact absurd hk hk1
    · refine x_catch C hR.k hT [] ⟨0, 127, 128, 41⟩ [⟨0, 127, 133, 44⟩] rfl (fun y hy => by cases hy) rfl (by decide) lkA (List.mem_of_getElem? (i := 1) rfl) (fun q => ?_)
      refine g_astore (pc' := 130) C dL_calls_128 rfl rfl ?_
      refine g_ldc (v := (-100002)) (pc' := 132) C kL_43 dL_calls_130 rfl ?_
      exact x_iret C hR dL_calls_132 (Nat.le_of_ble_eq_true rfl) (Nat.le_of_ble_eq_true rfl) ⟨rfl, Or.inr ⟨by rw [hk]; decide, by rw [hk]; rfl, rfl, rfl, rfl, rfl⟩⟩
    · refine x_catch C hR.k hT [⟨0, 127, 128, 41⟩] ⟨0, 127, 133, 44⟩ [] rfl (fun y hy => by
          simp only [List.mem_cons, List.not_mem_nil, or_false] at hy
          subst hy
          exact ⟨by decide, tA, lkA, List.mem_of_getElem? (i := 0) rfl⟩) rfl (by decide) lkS (List.mem_of_getElem? (i := 2) rfl) (fun q => ?_)
      refine g_astore (pc' := 135) C dL_calls_133 rfl rfl ?_
      refine g_ldc (v := (-100003)) (pc' := 137) C kL_46 dL_calls_135 rfl ?_
      exact x_iret C hR dL_calls_137 (Nat.le_of_ble_eq_true rfl) (Nat.le_of_ble_eq_true rfl) ⟨rfl, Or.inr ⟨by rw [hk]; decide, by rw [hk]; rfl, rfl, rfl, rfl, rfl⟩⟩
  · obtain ⟨hk, rfl, rfl, rfl, rfl, rfl, rfl⟩ := hp
    rw [Kw_self]
    refine g_if_eq (tgt := 126) (pc' := 122) C dL_calls_119 (by decide) rfl (fun hb => ?_) (fun hb => ?_)
    · refine g_iconst (v := 0) (pc' := 127) C dL_calls_126 (by decide) rfl ?_
      exact x_iret C hR dL_calls_127 (Nat.le_of_ble_eq_true rfl) (Nat.le_of_ble_eq_true rfl) ⟨rfl, Or.inl ⟨hk, by rw [if_pos hb], ⟨rfl, rfl⟩, rfl, rfl⟩⟩
    · refine g_iconst (v := 1) (pc' := 123) C dL_calls_122 (by decide) rfl ?_
      refine g_goto (tgt := 127) C dL_calls_123 (by decide) ?_
      exact x_iret C hR dL_calls_127 (Nat.le_of_ble_eq_true rfl) (Nat.le_of_ble_eq_true rfl) ⟨rfl, Or.inl ⟨hk, by rw [if_neg hb], ⟨rfl, rfl⟩, rfl, rfl⟩⟩
end WLcalls
