section WCases
theorem G_widen {K : wK} {z : wZ} {I : wI} {P : wP} {O : wO} {c n c' n' pc : Nat} {L : List (Nat × Value)} {S : List Value} (h1 : c ≤ c') (h2 : n ≤ n') (kk : G K z I P O c' n' pc L S) : G K z I P O c n pc L S := by
  obtain ⟨p, l, e, R, s, m, args, below, meth, cd, Q, g, A⟩ := K
  intro H locs ls hH hS hl hc
  exact W.widen h1 h2 (kk H locs ls hH hS hl hc)
theorem SX.up {K : wK} {b L : Nat} {xs : Nat → Int32} (h : SX K b L xs) (g' : wG) : SX (Kw K g') b L xs := h
theorem XK.up {K : wK} (h : XK K) (g' : wG) : XK (Kw K g') := h
def Nx (K : wK) (b i c n : Nat) : Prop := ∀ (g' : wG) (z' : wZ) (nw' : Nat) (I' : wI) (P' : wP) (O' : wO), Cx (Kw K g') cL_law RL 7 (some .boolean) room_1 z' → Sim z' nw' I' P' I' → RF z' P' → G (Kw K g') z' I' P' O' (c + 2) (n + 14) 1516 [(0, .ref b), (1, .ref (g'.2.2 0 0)), (2, .ref (g'.2.2 12 0)), (3, .ref (g'.2.2 14 0)), (4, .int (nI i))] []
theorem k9_lt {I : wI} {P : wP} {N : Nat} {x r w a : Int32} (h : cK9 I P N x r w a = 0) (hN : N ≤ 24) : x.toNatClampNeg < N := by
  unfold cK9 at h
  split at h
  · exact absurd h (by decide)
  · next h1 =>
    obtain ⟨i, hi, -, hc⟩ := oM_nI (x := x) (M := N) (by cases hq : oM x N; rfl; exact absurd (Or.inl hq) h1) hN
    rw [hc]; exact hi
theorem k10_lt {I : wI} {N : Nat} {x : Int32} (h : cK10 I N x = 0) (hN : N ≤ 24) : x.toNatClampNeg < N := by
  unfold cK10 at h
  split at h
  · exact absurd h (by decide)
  · next h1 =>
    obtain ⟨i, hi, -, hc⟩ := oM_nI (x := x) (M := N) (by simpa using h1) hN
    rw [hc]; exact hi
theorem k8_lt {I : wI} {P : wP} {M N : Nat} {x r w a y : Int32} (h : cK8 I P M N x r w a y = 0) (hM : M ≤ 24) : x.toNatClampNeg < M := by
  unfold cK8 at h
  split at h
  · exact absurd h (by decide)
  · next h1 =>
    obtain ⟨i, hi, -, hc⟩ := oM_nI (x := x) (M := M) (by cases hq : oM x M; rfl; exact absurd (Or.inl hq) h1) hM
    rw [hc]; exact hi
set_option maxHeartbeats 1000000 in
set_option maxRecDepth 20000 in
theorem q_interpreter {K : wK} {z : wZ} {nw : Nat} {I : wI} {P : wP} {O : wO} {c n b Ln i : Nat} {xs : Nat → Int32} (hfl : (Kl K).stackTraces = false) (C : Cx K cL_law RL 7 (some .boolean) room_1 z) (hXK : XK K) (hX : SX K b Ln xs) (hLn : Ln ≤ 3072) (hi : i + 6 ≤ Ln) (hc : c + 2 ≤ 601024) (hn : n + 14 ≤ 7293034) (S : Sim z nw I P I) (R : RF z P) (next : Nx K b i c n) : G K z I P O c n 136 [(0, .ref b), (1, .ref ((Kg K).2.2 0 0)), (2, .ref ((Kg K).2.2 12 0)), (3, .ref ((Kg K).2.2 14 0)), (4, .int (nI i))] [] := by
  have hS1 := S.A.n.2.1
  have hS2 := S.A.n.2.2
  refine g_aload_n (pc' := 137) C dL_law_136 rfl rfl ?_
  refine g_aload_n (pc' := 138) C dL_law_137 rfl rfl ?_
  refine g_iload (pc' := 140) C dL_law_138 rfl rfl ?_
  refine g_iconst (v := 1) (pc' := 141) C dL_law_140 (by decide) rfl ?_
  refine g_iadd (pc' := 142) C dL_law_141 rfl ?_
  refine g_sld (pc' := 143) C hX (i + 1) (nI_add i 1) (by omega) (by omega) dL_law_142 rfl ?_
  refine g_aload_n (pc' := 144) C dL_law_143 rfl rfl ?_
  refine g_iload (pc' := 146) C dL_law_144 rfl rfl ?_
  refine g_iconst (v := 2) (pc' := 147) C dL_law_146 (by decide) rfl ?_
  refine g_iadd (pc' := 148) C dL_law_147 rfl ?_
  refine g_sld (pc' := 149) C hX (i + 2) (nI_add i 2) (by omega) (by omega) dL_law_148 rfl ?_
  refine g_aload_n (pc' := 150) C dL_law_149 rfl rfl ?_
  refine g_iload (pc' := 152) C dL_law_150 rfl rfl ?_
  refine g_iconst (v := 3) (pc' := 153) C dL_law_152 (by decide) rfl ?_
  refine g_iadd (pc' := 154) C dL_law_153 rfl ?_
  refine g_sld (pc' := 155) C hX (i + 3) (nI_add i 3) (by omega) (by omega) dL_law_154 rfl ?_
  refine g_aload_n (pc' := 156) C dL_law_155 rfl rfl ?_
  refine x_callS (pc' := 159) (mc := 1) (ms := 6) (As := [.ref ((Kg K).2.2 0 0), .int (xs (i + 1)), .int (xs (i + 2)), .int (xs (i + 3)), .ref ((Kg K).2.2 14 0)]) (post := fun sz => LW (cK0 (xs (i + 1)) (xs (i + 2)) (xs (i + 3))) (Kg K) z (gE (Kg K) z) ((I 1 (xs (i + 1)).toNatClampNeg 1).toInt64) I P (cO0 I (xs (i + 1)) (xs (i + 2)) (xs (i + 3))) (P)) C hXK cw_L_interpreter (fun sz => w_interpreter hfl S.X sz) dL_law_156 ⟨by decide +kernel, by decide +kernel, (by decide +kernel : (parseMethodDescriptor yL_interpreter.desc).map (fun d => d.parameters.length) = some 5)⟩ ⟨⟨Nat.le_of_ble_eq_true rfl, Nat.le_of_ble_eq_true rfl⟩, rfl, rfl⟩ rfl (Nat.le_of_ble_eq_true rfl) ⟨by show c + 1 ≤ 601024; omega, by show n + 6 ≤ 7293034; omega⟩ rfl (fun sz v' g' z' I' P' O' hA' hp => ?_)
  obtain ⟨rfl, hp⟩ := hp
  rcases hp with ⟨hk, hge, e1, e2, hO⟩ | ⟨hk, e3, e4, e1, e2⟩
  · have sJ : Sim z nw I P (cO0 I (xs (i + 1)) (xs (i + 2)) (xs (i + 3))) := S.cJ (show Og I (cO0 I (xs (i + 1)) (xs (i + 2)) (xs (i + 3))) from og_O0)
    rw [e1, e2]
    have T := s_interpreter (x := (xs (i + 1))) (y := (xs (i + 2))) (w := (xs (i + 3))) sJ
    obtain ⟨T1, T2, -⟩ := T
    obtain ⟨T3, T4⟩ := T2 hk
    have S2 := T4.cI (show Om _ (mO0 (cO0 I (xs (i + 1)) (xs (i + 2)) (xs (i + 3))) (xs (i + 1)) (xs (i + 2)) (xs (i + 3))).1 from om_O0)
    obtain ⟨e3, e4⟩ := hge
    rw [e3, e4]
    rw [Kw_self]
    exact t_interpreter (M := z.1) (N := z.2) (nw := nw) C hX hLn hi (by omega) (by omega) sJ.M sJ.A.n.2.1 hS2 T1 (fun _ => hO.trans (congrArg Int32.toInt64 T3)) (G_widen (by omega) (by omega) (next (Kg K) _ _ _ _ _ C S2 R))
  · have T := s_interpreter (x := (xs (i + 1))) (y := (xs (i + 2))) (w := (xs (i + 3))) S
    obtain ⟨T1, -, T2⟩ := T
    have S2 := (T2 hk).cI (show Om _ (mO0 I (xs (i + 1)) (xs (i + 2)) (xs (i + 3))).1 from om_O0)
    rw [e3, e4, e1, e2, Kw_self]
    exact t_interpreter (M := z.1) (N := z.2) (nw := nw) C hX hLn hi (by omega) (by omega) S.M hS1 hS2 T1 (fun h => absurd h hk) (G_widen (by omega) (by omega) (next (Kg K) _ _ _ _ _ C S2 R))
set_option maxHeartbeats 1000000 in
set_option maxRecDepth 20000 in
theorem q_waive {K : wK} {z : wZ} {nw : Nat} {I : wI} {P : wP} {O : wO} {c n b Ln i : Nat} {xs : Nat → Int32} (hfl : (Kl K).stackTraces = false) (C : Cx K cL_law RL 7 (some .boolean) room_1 z) (hXK : XK K) (hX : SX K b Ln xs) (hLn : Ln ≤ 3072) (hi : i + 6 ≤ Ln) (hc : c + 2 ≤ 601024) (hn : n + 14 ≤ 7293034) (S : Sim z nw I P I) (R : RF z P) (next : Nx K b i c n) : G K z I P O c n 216 [(0, .ref b), (1, .ref ((Kg K).2.2 0 0)), (2, .ref ((Kg K).2.2 12 0)), (3, .ref ((Kg K).2.2 14 0)), (4, .int (nI i))] [] := by
  have hS1 := S.A.n.2.1
  have hS2 := S.A.n.2.2
  by_cases hz : xs (i + 2) = 0
  · refine g_aload_n (pc' := 217) C dL_law_216 rfl rfl ?_
    refine g_aload_n (pc' := 218) C dL_law_217 rfl rfl ?_
    refine g_iload (pc' := 220) C dL_law_218 rfl rfl ?_
    refine g_iconst (v := 1) (pc' := 221) C dL_law_220 (by decide) rfl ?_
    refine g_iadd (pc' := 222) C dL_law_221 rfl ?_
    refine g_sld (pc' := 223) C hX (i + 1) (nI_add i 1) (by omega) (by omega) dL_law_222 rfl ?_
    refine g_aload_n (pc' := 224) C dL_law_223 rfl rfl ?_
    refine g_iload (pc' := 226) C dL_law_224 rfl rfl ?_
    refine g_iconst (v := 2) (pc' := 227) C dL_law_226 (by decide) rfl ?_
    refine g_iadd (pc' := 228) C dL_law_227 rfl ?_
    refine g_sld (pc' := 229) C hX (i + 2) (nI_add i 2) (by omega) (by omega) dL_law_228 rfl ?_
    refine g_if_eq (tgt := 236) (pc' := 232) C dL_law_229 (by decide) rfl (fun _ => ?_) (fun h => absurd hz h)
    refine g_iconst (v := 0) (pc' := 237) C dL_law_236 (by decide) rfl ?_
    refine g_aload_n (pc' := 238) C dL_law_237 rfl rfl ?_
    refine x_callS (pc' := 241) (mc := 1) (ms := 6) (As := [.ref ((Kg K).2.2 0 0), .int (xs (i + 1)), .int (0 : Int32), .ref ((Kg K).2.2 14 0)]) (post := fun sz => LW (cK1 (xs (i + 1))) (Kg K) z (gE (Kg K) z) ((if I 5 0 (xs (i + 1)).toNatClampNeg = 0 then 0 else 1)) I P (upI I 5 0 (xs (i + 1)).toNatClampNeg (0 : Int32)) (P)) C hXK cw_L_waive (fun sz => w_waive hfl rfl (fun j hj => by rw [(S.A.w j hj).1]; exact (S.A.w j hj).2) sz) dL_law_238 ⟨by decide +kernel, by decide +kernel, (by decide +kernel : (parseMethodDescriptor yL_waive.desc).map (fun d => d.parameters.length) = some 4)⟩ ⟨⟨Nat.le_of_ble_eq_true rfl, Nat.le_of_ble_eq_true rfl⟩, rfl, rfl⟩ rfl (Nat.le_of_ble_eq_true rfl) ⟨by show c + 1 ≤ 601024; omega, by show n + 6 ≤ 7293034; omega⟩ rfl (fun sz v' g' z' I' P' O' hA' hp => ?_)
    obtain ⟨rfl, hp⟩ := hp
    rcases hp with ⟨hk, hge, e1, e2, hO⟩ | ⟨hk, e3, e4, e1, e2⟩
    · have sJ : Sim z nw I P (upI I 5 0 (xs (i + 1)).toNatClampNeg (0 : Int32)) := S.cJ (show Og I (upI I 5 0 (xs (i + 1)).toNatClampNeg (0 : Int32)) from (Og.rf.up (by decide)))
      rw [e1, e2]
      have T := s_waive (x := (xs (i + 1))) (y := (0 : Int32)) sJ (Or.inl rfl)
      obtain ⟨T1, T2, -⟩ := T
      obtain ⟨T3, T4⟩ := T2 hk
      have S2 := T4.cI (show Om _ (mO1 (upI I 5 0 (xs (i + 1)).toNatClampNeg (0 : Int32)) (xs (i + 1)) (0 : Int32)).1 from om_O1)
      obtain ⟨e3, e4⟩ := hge
      rw [e3, e4]
      rw [Kw_self]
      exact t_waive0 (M := z.1) (N := z.2) (nw := nw) C hX hLn hi (by omega) (by omega) sJ.M sJ.A.n.2.1 hS2 hz (fun j hj => (sJ.A.w j hj).2) T1 (fun _ => by rw [hO, T3]) (G_widen (by omega) (by omega) (next (Kg K) _ _ _ _ _ C S2 R))
    · have T := s_waive (x := (xs (i + 1))) (y := (0 : Int32)) S (Or.inl rfl)
      obtain ⟨T1, -, T2⟩ := T
      have S2 := (T2 hk).cI (show Om _ (mO1 I (xs (i + 1)) (0 : Int32)).1 from om_O1)
      rw [e3, e4, e1, e2, Kw_self]
      exact t_waive0 (M := z.1) (N := z.2) (nw := nw) C hX hLn hi (by omega) (by omega) S.M hS1 hS2 hz (fun j hj => (S.A.w j hj).2) T1 (fun h => absurd h hk) (G_widen (by omega) (by omega) (next (Kg K) _ _ _ _ _ C S2 R))
  · refine g_aload_n (pc' := 217) C dL_law_216 rfl rfl ?_
    refine g_aload_n (pc' := 218) C dL_law_217 rfl rfl ?_
    refine g_iload (pc' := 220) C dL_law_218 rfl rfl ?_
    refine g_iconst (v := 1) (pc' := 221) C dL_law_220 (by decide) rfl ?_
    refine g_iadd (pc' := 222) C dL_law_221 rfl ?_
    refine g_sld (pc' := 223) C hX (i + 1) (nI_add i 1) (by omega) (by omega) dL_law_222 rfl ?_
    refine g_aload_n (pc' := 224) C dL_law_223 rfl rfl ?_
    refine g_iload (pc' := 226) C dL_law_224 rfl rfl ?_
    refine g_iconst (v := 2) (pc' := 227) C dL_law_226 (by decide) rfl ?_
    refine g_iadd (pc' := 228) C dL_law_227 rfl ?_
    refine g_sld (pc' := 229) C hX (i + 2) (nI_add i 2) (by omega) (by omega) dL_law_228 rfl ?_
    refine g_if_eq (tgt := 236) (pc' := 232) C dL_law_229 (by decide) rfl (fun h => absurd h hz) (fun _ => ?_)
    refine g_iconst (v := 1) (pc' := 233) C dL_law_232 (by decide) rfl ?_
    refine g_goto (tgt := 237) C dL_law_233 (by decide) ?_
    refine g_aload_n (pc' := 238) C dL_law_237 rfl rfl ?_
    refine x_callS (pc' := 241) (mc := 1) (ms := 6) (As := [.ref ((Kg K).2.2 0 0), .int (xs (i + 1)), .int (1 : Int32), .ref ((Kg K).2.2 14 0)]) (post := fun sz => LW (cK1 (xs (i + 1))) (Kg K) z (gE (Kg K) z) ((if I 5 0 (xs (i + 1)).toNatClampNeg = 0 then 0 else 1)) I P (upI I 5 0 (xs (i + 1)).toNatClampNeg (1 : Int32)) (P)) C hXK cw_L_waive (fun sz => w_waive hfl rfl (fun j hj => by rw [(S.A.w j hj).1]; exact (S.A.w j hj).2) sz) dL_law_238 ⟨by decide +kernel, by decide +kernel, (by decide +kernel : (parseMethodDescriptor yL_waive.desc).map (fun d => d.parameters.length) = some 4)⟩ ⟨⟨Nat.le_of_ble_eq_true rfl, Nat.le_of_ble_eq_true rfl⟩, rfl, rfl⟩ rfl (Nat.le_of_ble_eq_true rfl) ⟨by show c + 1 ≤ 601024; omega, by show n + 6 ≤ 7293034; omega⟩ rfl (fun sz v' g' z' I' P' O' hA' hp => ?_)
    obtain ⟨rfl, hp⟩ := hp
    rcases hp with ⟨hk, hge, e1, e2, hO⟩ | ⟨hk, e3, e4, e1, e2⟩
    · have sJ : Sim z nw I P (upI I 5 0 (xs (i + 1)).toNatClampNeg (1 : Int32)) := S.cJ (show Og I (upI I 5 0 (xs (i + 1)).toNatClampNeg (1 : Int32)) from (Og.rf.up (by decide)))
      rw [e1, e2]
      have T := s_waive (x := (xs (i + 1))) (y := (1 : Int32)) sJ (Or.inr rfl)
      obtain ⟨T1, T2, -⟩ := T
      obtain ⟨T3, T4⟩ := T2 hk
      have S2 := T4.cI (show Om _ (mO1 (upI I 5 0 (xs (i + 1)).toNatClampNeg (1 : Int32)) (xs (i + 1)) (1 : Int32)).1 from om_O1)
      obtain ⟨e3, e4⟩ := hge
      rw [e3, e4]
      rw [Kw_self]
      exact t_waive1 (M := z.1) (N := z.2) (nw := nw) C hX hLn hi (by omega) (by omega) sJ.M sJ.A.n.2.1 hS2 hz (fun j hj => (sJ.A.w j hj).2) T1 (fun _ => by rw [hO, T3]) (G_widen (by omega) (by omega) (next (Kg K) _ _ _ _ _ C S2 R))
    · have T := s_waive (x := (xs (i + 1))) (y := (1 : Int32)) S (Or.inr rfl)
      obtain ⟨T1, -, T2⟩ := T
      have S2 := (T2 hk).cI (show Om _ (mO1 I (xs (i + 1)) (1 : Int32)).1 from om_O1)
      rw [e3, e4, e1, e2, Kw_self]
      exact t_waive1 (M := z.1) (N := z.2) (nw := nw) C hX hLn hi (by omega) (by omega) S.M hS1 hS2 hz (fun j hj => (S.A.w j hj).2) T1 (fun h => absurd h hk) (G_widen (by omega) (by omega) (next (Kg K) _ _ _ _ _ C S2 R))
set_option maxHeartbeats 1000000 in
set_option maxRecDepth 20000 in
theorem q_file {K : wK} {z : wZ} {nw : Nat} {I : wI} {P : wP} {O : wO} {c n b Ln i : Nat} {xs : Nat → Int32} (hfl : (Kl K).stackTraces = false) (C : Cx K cL_law RL 7 (some .boolean) room_1 z) (hXK : XK K) (hX : SX K b Ln xs) (hLn : Ln ≤ 3072) (hi : i + 6 ≤ Ln) (hc : c + 2 ≤ 601024) (hn : n + 14 ≤ 7293034) (S : Sim z nw I P I) (R : RF z P) (next : Nx K b i c n) : G K z I P O c n 307 [(0, .ref b), (1, .ref ((Kg K).2.2 0 0)), (2, .ref ((Kg K).2.2 12 0)), (3, .ref ((Kg K).2.2 14 0)), (4, .int (nI i))] [] := by
  have hS1 := S.A.n.2.1
  have hS2 := S.A.n.2.2
  refine g_aload_n (pc' := 308) C dL_law_307 rfl rfl ?_
  refine g_aload_n (pc' := 309) C dL_law_308 rfl rfl ?_
  refine g_iload (pc' := 311) C dL_law_309 rfl rfl ?_
  refine g_iconst (v := 1) (pc' := 312) C dL_law_311 (by decide) rfl ?_
  refine g_iadd (pc' := 313) C dL_law_312 rfl ?_
  refine g_sld (pc' := 314) C hX (i + 1) (nI_add i 1) (by omega) (by omega) dL_law_313 rfl ?_
  refine g_aload_n (pc' := 315) C dL_law_314 rfl rfl ?_
  refine g_iload (pc' := 317) C dL_law_315 rfl rfl ?_
  refine g_iconst (v := 2) (pc' := 318) C dL_law_317 (by decide) rfl ?_
  refine g_iadd (pc' := 319) C dL_law_318 rfl ?_
  refine g_sld (pc' := 320) C hX (i + 2) (nI_add i 2) (by omega) (by omega) dL_law_319 rfl ?_
  refine g_aload_n (pc' := 321) C dL_law_320 rfl rfl ?_
  refine g_iload (pc' := 323) C dL_law_321 rfl rfl ?_
  refine g_iconst (v := 3) (pc' := 324) C dL_law_323 (by decide) rfl ?_
  refine g_iadd (pc' := 325) C dL_law_324 rfl ?_
  refine g_sld (pc' := 326) C hX (i + 3) (nI_add i 3) (by omega) (by omega) dL_law_325 rfl ?_
  refine g_aload_n (pc' := 327) C dL_law_326 rfl rfl ?_
  refine g_iload (pc' := 329) C dL_law_327 rfl rfl ?_
  refine g_iconst (v := 4) (pc' := 330) C dL_law_329 (by decide) rfl ?_
  refine g_iadd (pc' := 331) C dL_law_330 rfl ?_
  refine g_sld (pc' := 332) C hX (i + 4) (nI_add i 4) (by omega) (by omega) dL_law_331 rfl ?_
  refine g_aload_n (pc' := 333) C dL_law_332 rfl rfl ?_
  refine x_callS (pc' := 336) (mc := 1) (ms := 8) (As := [.ref ((Kg K).2.2 0 0), .int (xs (i + 1)), .int (xs (i + 2)), .int (xs (i + 3)), .int (xs (i + 4)), .ref ((Kg K).2.2 14 0)]) (post := fun sz => LW (cK2 I (xs (i + 1)) (xs (i + 2)) (xs (i + 3)) (xs (i + 4))) (Kg K) z (gF (Kg K) z sz) ((nI z.1).toInt64) I P (cO2 I z.1 (xs (i + 1)) (xs (i + 2)) (xs (i + 3)) (xs (i + 4))) (upP P 6 0 z.1 (some z.1))) C hXK cw_L_file (fun sz => w_file hfl S.X R sz) dL_law_333 ⟨by decide +kernel, by decide +kernel, (by decide +kernel : (parseMethodDescriptor yL_file.desc).map (fun d => d.parameters.length) = some 6)⟩ ⟨⟨Nat.le_of_ble_eq_true rfl, Nat.le_of_ble_eq_true rfl⟩, rfl, rfl⟩ rfl (Nat.le_of_ble_eq_true rfl) ⟨by show c + 1 ≤ 601024; omega, by show n + 8 ≤ 7293034; omega⟩ rfl (fun sz v' g' z' I' P' O' hA' hp => ?_)
  obtain ⟨rfl, hp⟩ := hp
  rcases hp with ⟨hk, hge, e1, e2, hO⟩ | ⟨hk, e3, e4, e1, e2⟩
  · have sJ : Sim z nw I P (cO2 I z.1 (xs (i + 1)) (xs (i + 2)) (xs (i + 3)) (xs (i + 4))) := S.cJ (show Og I (cO2 I z.1 (xs (i + 1)) (xs (i + 2)) (xs (i + 3)) (xs (i + 4))) from og_O2)
    rw [e1, e2]
    have T := s_file (x := (xs (i + 1))) (y := (xs (i + 2))) (w := (xs (i + 3))) (v := (xs (i + 4))) sJ
    obtain ⟨T1, T2, -⟩ := T
    obtain ⟨T3, T4⟩ := T2 hk
    have S2 := T4.cI (show Om _ (mO2 (cO2 I z.1 (xs (i + 1)) (xs (i + 2)) (xs (i + 3)) (xs (i + 4))) z.1 (xs (i + 1)) (xs (i + 2)) (xs (i + 3)) (xs (i + 4))).1 from om_O2)
    obtain ⟨⟨a, ha, e3⟩, e4⟩ := hge
    rw [e3, e4]
    have ha2 : Ka K a := by rcases ha with ⟨k, i, hki, rfl⟩ | ha; exact C.al hki; exact hA' a ha
    have C' : Cx (Kw K (gUp (Kg K) 2 z.1 a)) cL_law RL 7 (some .boolean) room_1 (z.1 + 1, z.2) := C.up rfl rfl (fun k i hw => by
      rcases wAl_M hw with hw | ⟨rfl, rfl⟩
      · rw [gUp_M hw]; exact C.al hw
      · rw [show (gUp (Kg K) 2 z.1 a).2.2 2 z.1 = a from if_pos ⟨rfl, rfl⟩]; exact ha2)
    exact t_file (K := Kw K (gUp (Kg K) 2 z.1 a)) (M := z.1) (N := z.2) (nw := nw) C' (hX.up _) hLn hi (by omega) (by omega) sJ.M sJ.A.n.2.1 hS2 T1 (fun _ => hO.trans (congrArg Int32.toInt64 T3)) (G_widen (by omega) (by omega) (next _ _ _ _ _ _ C' S2 (rf_O2 R)))
  · have T := s_file (x := (xs (i + 1))) (y := (xs (i + 2))) (w := (xs (i + 3))) (v := (xs (i + 4))) S
    obtain ⟨T1, -, T2⟩ := T
    have S2 := (T2 hk).cI (show Om _ (mO2 I z.1 (xs (i + 1)) (xs (i + 2)) (xs (i + 3)) (xs (i + 4))).1 from om_O2)
    rw [e3, e4, e1, e2, Kw_self]
    exact t_file (M := z.1) (N := z.2) (nw := nw) C hX hLn hi (by omega) (by omega) S.M hS1 hS2 T1 (fun h => absurd h hk) (G_widen (by omega) (by omega) (next (Kg K) _ _ _ _ _ C S2 R))
set_option maxHeartbeats 1000000 in
set_option maxRecDepth 20000 in
theorem q_pay {K : wK} {z : wZ} {nw : Nat} {I : wI} {P : wP} {O : wO} {c n b Ln i : Nat} {xs : Nat → Int32} (hfl : (Kl K).stackTraces = false) (C : Cx K cL_law RL 7 (some .boolean) room_1 z) (hXK : XK K) (hX : SX K b Ln xs) (hLn : Ln ≤ 3072) (hi : i + 6 ≤ Ln) (hc : c + 2 ≤ 601024) (hn : n + 14 ≤ 7293034) (S : Sim z nw I P I) (R : RF z P) (next : Nx K b i c n) : G K z I P O c n 399 [(0, .ref b), (1, .ref ((Kg K).2.2 0 0)), (2, .ref ((Kg K).2.2 12 0)), (3, .ref ((Kg K).2.2 14 0)), (4, .int (nI i))] [] := by
  have hS1 := S.A.n.2.1
  have hS2 := S.A.n.2.2
  refine g_aload_n (pc' := 400) C dL_law_399 rfl rfl ?_
  refine g_aload_n (pc' := 401) C dL_law_400 rfl rfl ?_
  refine g_iload (pc' := 403) C dL_law_401 rfl rfl ?_
  refine g_iconst (v := 1) (pc' := 404) C dL_law_403 (by decide) rfl ?_
  refine g_iadd (pc' := 405) C dL_law_404 rfl ?_
  refine g_sld (pc' := 406) C hX (i + 1) (nI_add i 1) (by omega) (by omega) dL_law_405 rfl ?_
  refine g_aload_n (pc' := 407) C dL_law_406 rfl rfl ?_
  refine g_iload (pc' := 409) C dL_law_407 rfl rfl ?_
  refine g_iconst (v := 2) (pc' := 410) C dL_law_409 (by decide) rfl ?_
  refine g_iadd (pc' := 411) C dL_law_410 rfl ?_
  refine g_sld (pc' := 412) C hX (i + 2) (nI_add i 2) (by omega) (by omega) dL_law_411 rfl ?_
  refine g_aload_n (pc' := 413) C dL_law_412 rfl rfl ?_
  refine x_callS (pc' := 416) (mc := 1) (ms := 6) (As := [.ref ((Kg K).2.2 0 0), .int (xs (i + 1)), .int (xs (i + 2)), .ref ((Kg K).2.2 14 0)]) (post := fun sz => LW (cK3 z.1 (xs (i + 1)) (xs (i + 2))) (Kg K) z (gE (Kg K) z) ((I 2 (xs (i + 1)).toNatClampNeg 6 + (xs (i + 2))).toInt64) I P (upI I 2 (xs (i + 1)).toNatClampNeg 6 (I 2 (xs (i + 1)).toNatClampNeg 6 + (xs (i + 2)))) (P)) C hXK cw_L_pay (fun sz => w_pay hfl S.X sz) dL_law_413 ⟨by decide +kernel, by decide +kernel, (by decide +kernel : (parseMethodDescriptor yL_pay.desc).map (fun d => d.parameters.length) = some 4)⟩ ⟨⟨Nat.le_of_ble_eq_true rfl, Nat.le_of_ble_eq_true rfl⟩, rfl, rfl⟩ rfl (Nat.le_of_ble_eq_true rfl) ⟨by show c + 1 ≤ 601024; omega, by show n + 6 ≤ 7293034; omega⟩ rfl (fun sz v' g' z' I' P' O' hA' hp => ?_)
  obtain ⟨rfl, hp⟩ := hp
  rcases hp with ⟨hk, hge, e1, e2, hO⟩ | ⟨hk, e3, e4, e1, e2⟩
  · have sJ : Sim z nw I P (upI I 2 (xs (i + 1)).toNatClampNeg 6 (I 2 (xs (i + 1)).toNatClampNeg 6 + (xs (i + 2)))) := S.cJ (show Og I (upI I 2 (xs (i + 1)).toNatClampNeg 6 (I 2 (xs (i + 1)).toNatClampNeg 6 + (xs (i + 2)))) from (Og.rf.up (by decide)))
    rw [e1, e2]
    have T := s_pay (x := (xs (i + 1))) (y := (xs (i + 2))) sJ
    obtain ⟨T1, T2, -⟩ := T
    obtain ⟨T3, T4⟩ := T2 hk
    have S2 := T4.cI (show Om _ (mO3 (upI I 2 (xs (i + 1)).toNatClampNeg 6 (I 2 (xs (i + 1)).toNatClampNeg 6 + (xs (i + 2)))) z.1 (xs (i + 1)) (xs (i + 2))).1 from om_O3)
    obtain ⟨e3, e4⟩ := hge
    rw [e3, e4]
    rw [Kw_self]
    exact t_pay (M := z.1) (N := z.2) (nw := nw) C hX hLn hi (by omega) (by omega) sJ.M sJ.A.n.2.1 hS2 T1 (fun _ => hO.trans (congrArg Int32.toInt64 T3)) (G_widen (by omega) (by omega) (next (Kg K) _ _ _ _ _ C S2 R))
  · have T := s_pay (x := (xs (i + 1))) (y := (xs (i + 2))) S
    obtain ⟨T1, -, T2⟩ := T
    have S2 := (T2 hk).cI (show Om _ (mO3 I z.1 (xs (i + 1)) (xs (i + 2))).1 from om_O3)
    rw [e3, e4, e1, e2, Kw_self]
    exact t_pay (M := z.1) (N := z.2) (nw := nw) C hX hLn hi (by omega) (by omega) S.M hS1 hS2 T1 (fun h => absurd h hk) (G_widen (by omega) (by omega) (next (Kg K) _ _ _ _ _ C S2 R))
set_option maxHeartbeats 1000000 in
set_option maxRecDepth 20000 in
theorem q_decide {K : wK} {z : wZ} {nw : Nat} {I : wI} {P : wP} {O : wO} {c n b Ln i : Nat} {xs : Nat → Int32} (hfl : (Kl K).stackTraces = false) (C : Cx K cL_law RL 7 (some .boolean) room_1 z) (hXK : XK K) (hX : SX K b Ln xs) (hLn : Ln ≤ 3072) (hi : i + 6 ≤ Ln) (hc : c + 2 ≤ 601024) (hn : n + 14 ≤ 7293034) (S : Sim z nw I P I) (R : RF z P) (next : Nx K b i c n) : G K z I P O c n 467 [(0, .ref b), (1, .ref ((Kg K).2.2 0 0)), (2, .ref ((Kg K).2.2 12 0)), (3, .ref ((Kg K).2.2 14 0)), (4, .int (nI i))] [] := by
  have hS1 := S.A.n.2.1
  have hS2 := S.A.n.2.2
  refine g_aload_n (pc' := 468) C dL_law_467 rfl rfl ?_
  refine g_aload_n (pc' := 469) C dL_law_468 rfl rfl ?_
  refine g_iload (pc' := 471) C dL_law_469 rfl rfl ?_
  refine g_iconst (v := 1) (pc' := 472) C dL_law_471 (by decide) rfl ?_
  refine g_iadd (pc' := 473) C dL_law_472 rfl ?_
  refine g_sld (pc' := 474) C hX (i + 1) (nI_add i 1) (by omega) (by omega) dL_law_473 rfl ?_
  refine g_aload_n (pc' := 475) C dL_law_474 rfl rfl ?_
  refine x_callS (pc' := 478) (mc := 1) (ms := 6) (As := [.ref ((Kg K).2.2 0 0), .int (xs (i + 1)), .ref ((Kg K).2.2 14 0)]) (post := fun sz => LW (cKs I z.1 (xs (i + 1)) 1) (Kg K) z (gE (Kg K) z) (((cO4 I P z (xs (i + 1))).2.2).toInt64) I P ((cO4 I P z (xs (i + 1))).1) ((cO4 I P z (xs (i + 1))).2.1)) C hXK cw_L_decide (fun sz => w_decide hfl S.X sz) dL_law_475 ⟨by decide +kernel, by decide +kernel, (by decide +kernel : (parseMethodDescriptor yL_decide.desc).map (fun d => d.parameters.length) = some 3)⟩ ⟨⟨Nat.le_of_ble_eq_true rfl, Nat.le_of_ble_eq_true rfl⟩, rfl, rfl⟩ rfl (Nat.le_of_ble_eq_true rfl) ⟨by show c + 1 ≤ 601024; omega, by show n + 6 ≤ 7293034; omega⟩ rfl (fun sz v' g' z' I' P' O' hA' hp => ?_)
  obtain ⟨rfl, hp⟩ := hp
  rcases hp with ⟨hk, hge, e1, e2, hO⟩ | ⟨hk, e3, e4, e1, e2⟩
  · have sJ : Sim z nw I P ((cO4 I P z (xs (i + 1))).1) := S.cJ (show Og I ((cO4 I P z (xs (i + 1))).1) from og_O4)
    rw [e1, e2]
    have T := s_decide (x := (xs (i + 1))) sJ
    obtain ⟨T1, T2, -⟩ := T
    obtain ⟨T3, T4⟩ := T2 hk
    have S2 := T4.cI (show Om _ (mO4 ((cO4 I P z (xs (i + 1))).1) z.1 z.2 (xs (i + 1))).1 from om_O4)
    obtain ⟨e3, e4⟩ := hge
    rw [e3, e4]
    rw [Kw_self]
    exact t_decide (M := z.1) (N := z.2) (nw := nw) C hX hLn hi (by omega) (by omega) sJ.M sJ.A.n.2.1 hS2 T1 (fun _ => hO.trans (congrArg Int32.toInt64 T3)) (G_widen (by omega) (by omega) (next (Kg K) _ _ _ _ _ C S2 (rf_O4 R S)))
  · have T := s_decide (x := (xs (i + 1))) S
    obtain ⟨T1, -, T2⟩ := T
    have S2 := (T2 hk).cI (show Om _ (mO4 I z.1 z.2 (xs (i + 1))).1 from om_O4)
    rw [e3, e4, e1, e2, Kw_self]
    exact t_decide (M := z.1) (N := z.2) (nw := nw) C hX hLn hi (by omega) (by omega) S.M hS1 hS2 T1 (fun h => absurd h hk) (G_widen (by omega) (by omega) (next (Kg K) _ _ _ _ _ C S2 R))
set_option maxHeartbeats 1000000 in
set_option maxRecDepth 20000 in
theorem q_appeal {K : wK} {z : wZ} {nw : Nat} {I : wI} {P : wP} {O : wO} {c n b Ln i : Nat} {xs : Nat → Int32} (hfl : (Kl K).stackTraces = false) (C : Cx K cL_law RL 7 (some .boolean) room_1 z) (hXK : XK K) (hX : SX K b Ln xs) (hLn : Ln ≤ 3072) (hi : i + 6 ≤ Ln) (hc : c + 2 ≤ 601024) (hn : n + 14 ≤ 7293034) (S : Sim z nw I P I) (R : RF z P) (next : Nx K b i c n) : G K z I P O c n 523 [(0, .ref b), (1, .ref ((Kg K).2.2 0 0)), (2, .ref ((Kg K).2.2 12 0)), (3, .ref ((Kg K).2.2 14 0)), (4, .int (nI i))] [] := by
  have hS1 := S.A.n.2.1
  have hS2 := S.A.n.2.2
  refine g_aload_n (pc' := 524) C dL_law_523 rfl rfl ?_
  refine g_aload_n (pc' := 525) C dL_law_524 rfl rfl ?_
  refine g_iload (pc' := 527) C dL_law_525 rfl rfl ?_
  refine g_iconst (v := 1) (pc' := 528) C dL_law_527 (by decide) rfl ?_
  refine g_iadd (pc' := 529) C dL_law_528 rfl ?_
  refine g_sld (pc' := 530) C hX (i + 1) (nI_add i 1) (by omega) (by omega) dL_law_529 rfl ?_
  refine g_aload_n (pc' := 531) C dL_law_530 rfl rfl ?_
  refine x_callS (pc' := 534) (mc := 1) (ms := 6) (As := [.ref ((Kg K).2.2 0 0), .int (xs (i + 1)), .ref ((Kg K).2.2 14 0)]) (post := fun sz => LW (cK5 I z.1 (xs (i + 1))) (Kg K) z (gE (Kg K) z) ((I 2 (xs (i + 1)).toNatClampNeg 6 - ff I (xs (i + 1)).toNatClampNeg 80).toInt64) I P (cO5 I (xs (i + 1))) (P)) C hXK cw_L_appeal (fun sz => w_appeal hfl S.X sz) dL_law_531 ⟨by decide +kernel, by decide +kernel, (by decide +kernel : (parseMethodDescriptor yL_appeal.desc).map (fun d => d.parameters.length) = some 3)⟩ ⟨⟨Nat.le_of_ble_eq_true rfl, Nat.le_of_ble_eq_true rfl⟩, rfl, rfl⟩ rfl (Nat.le_of_ble_eq_true rfl) ⟨by show c + 1 ≤ 601024; omega, by show n + 6 ≤ 7293034; omega⟩ rfl (fun sz v' g' z' I' P' O' hA' hp => ?_)
  obtain ⟨rfl, hp⟩ := hp
  rcases hp with ⟨hk, hge, e1, e2, hO⟩ | ⟨hk, e3, e4, e1, e2⟩
  · have sJ : Sim z nw I P (cO5 I (xs (i + 1))) := S.cJ (show Og I (cO5 I (xs (i + 1))) from og_O5)
    rw [e1, e2]
    have T := s_appeal (x := (xs (i + 1))) sJ
    obtain ⟨T1, T2, -⟩ := T
    obtain ⟨T3, T4⟩ := T2 hk
    have S2 := T4.cI (show Om _ (mO5 (cO5 I (xs (i + 1))) z.1 (xs (i + 1))).1 from om_O5)
    obtain ⟨e3, e4⟩ := hge
    rw [e3, e4]
    rw [Kw_self]
    exact t_appeal (M := z.1) (N := z.2) (nw := nw) C hX hLn hi (by omega) (by omega) sJ.M sJ.A.n.2.1 hS2 T1 (fun _ => hO.trans (congrArg Int32.toInt64 T3)) (G_widen (by omega) (by omega) (next (Kg K) _ _ _ _ _ C S2 R))
  · have T := s_appeal (x := (xs (i + 1))) S
    obtain ⟨T1, -, T2⟩ := T
    have S2 := (T2 hk).cI (show Om _ (mO5 I z.1 (xs (i + 1))).1 from om_O5)
    rw [e3, e4, e1, e2, Kw_self]
    exact t_appeal (M := z.1) (N := z.2) (nw := nw) C hX hLn hi (by omega) (by omega) S.M hS1 hS2 T1 (fun h => absurd h hk) (G_widen (by omega) (by omega) (next (Kg K) _ _ _ _ _ C S2 R))
set_option maxHeartbeats 1000000 in
set_option maxRecDepth 20000 in
theorem q_settle {K : wK} {z : wZ} {nw : Nat} {I : wI} {P : wP} {O : wO} {c n b Ln i : Nat} {xs : Nat → Int32} (hfl : (Kl K).stackTraces = false) (C : Cx K cL_law RL 7 (some .boolean) room_1 z) (hXK : XK K) (hX : SX K b Ln xs) (hLn : Ln ≤ 3072) (hi : i + 6 ≤ Ln) (hc : c + 2 ≤ 601024) (hn : n + 14 ≤ 7293034) (S : Sim z nw I P I) (R : RF z P) (next : Nx K b i c n) : G K z I P O c n 579 [(0, .ref b), (1, .ref ((Kg K).2.2 0 0)), (2, .ref ((Kg K).2.2 12 0)), (3, .ref ((Kg K).2.2 14 0)), (4, .int (nI i))] [] := by
  have hS1 := S.A.n.2.1
  have hS2 := S.A.n.2.2
  by_cases hz : xs (i + 2) = 0
  · refine g_aload_n (pc' := 580) C dL_law_579 rfl rfl ?_
    refine g_aload_n (pc' := 581) C dL_law_580 rfl rfl ?_
    refine g_iload (pc' := 583) C dL_law_581 rfl rfl ?_
    refine g_iconst (v := 1) (pc' := 584) C dL_law_583 (by decide) rfl ?_
    refine g_iadd (pc' := 585) C dL_law_584 rfl ?_
    refine g_sld (pc' := 586) C hX (i + 1) (nI_add i 1) (by omega) (by omega) dL_law_585 rfl ?_
    refine g_aload_n (pc' := 587) C dL_law_586 rfl rfl ?_
    refine g_iload (pc' := 589) C dL_law_587 rfl rfl ?_
    refine g_iconst (v := 2) (pc' := 590) C dL_law_589 (by decide) rfl ?_
    refine g_iadd (pc' := 591) C dL_law_590 rfl ?_
    refine g_sld (pc' := 592) C hX (i + 2) (nI_add i 2) (by omega) (by omega) dL_law_591 rfl ?_
    refine g_if_eq (tgt := 599) (pc' := 595) C dL_law_592 (by decide) rfl (fun _ => ?_) (fun h => absurd hz h)
    refine g_iconst (v := 0) (pc' := 600) C dL_law_599 (by decide) rfl ?_
    refine g_aload_n (pc' := 601) C dL_law_600 rfl rfl ?_
    refine x_callS (pc' := 604) (mc := 1) (ms := 6) (As := [.ref ((Kg K).2.2 0 0), .int (xs (i + 1)), .int (0 : Int32), .ref ((Kg K).2.2 14 0)]) (post := fun sz => LW (cKs I z.1 (xs (i + 1)) 3) (Kg K) z (gE (Kg K) z) ((I 2 (xs (i + 1)).toNatClampNeg 7).toInt64) I P (upI I 2 (xs (i + 1)).toNatClampNeg 5 (if (0 : Int32) = 0 then 2 else 0)) (P)) C hXK cw_L_settle (fun sz => w_settle hfl S.X sz) dL_law_601 ⟨by decide +kernel, by decide +kernel, (by decide +kernel : (parseMethodDescriptor yL_settle.desc).map (fun d => d.parameters.length) = some 4)⟩ ⟨⟨Nat.le_of_ble_eq_true rfl, Nat.le_of_ble_eq_true rfl⟩, rfl, rfl⟩ rfl (Nat.le_of_ble_eq_true rfl) ⟨by show c + 1 ≤ 601024; omega, by show n + 6 ≤ 7293034; omega⟩ rfl (fun sz v' g' z' I' P' O' hA' hp => ?_)
    obtain ⟨rfl, hp⟩ := hp
    rcases hp with ⟨hk, hge, e1, e2, hO⟩ | ⟨hk, e3, e4, e1, e2⟩
    · have sJ : Sim z nw I P (upI I 2 (xs (i + 1)).toNatClampNeg 5 (if (0 : Int32) = 0 then 2 else 0)) := S.cJ (show Og I (upI I 2 (xs (i + 1)).toNatClampNeg 5 (if (0 : Int32) = 0 then 2 else 0)) from (Og.rf.up (by decide)))
      rw [e1, e2]
      have T := s_settle (x := (xs (i + 1))) (y := (0 : Int32)) sJ
      obtain ⟨T1, T2, -⟩ := T
      obtain ⟨T3, T4⟩ := T2 hk
      have S2 := T4.cI (show Om _ (mO6 (upI I 2 (xs (i + 1)).toNatClampNeg 5 (if (0 : Int32) = 0 then 2 else 0)) z.1 (xs (i + 1)) (0 : Int32)).1 from om_O6)
      obtain ⟨e3, e4⟩ := hge
      rw [e3, e4]
      rw [Kw_self]
      exact t_settle0 (M := z.1) (N := z.2) (nw := nw) C hX hLn hi (by omega) (by omega) sJ.M sJ.A.n.2.1 hS2 hz T1 (fun _ => hO.trans (congrArg Int32.toInt64 T3)) (G_widen (by omega) (by omega) (next (Kg K) _ _ _ _ _ C S2 R))
    · have T := s_settle (x := (xs (i + 1))) (y := (0 : Int32)) S
      obtain ⟨T1, -, T2⟩ := T
      have S2 := (T2 hk).cI (show Om _ (mO6 I z.1 (xs (i + 1)) (0 : Int32)).1 from om_O6)
      rw [e3, e4, e1, e2, Kw_self]
      exact t_settle0 (M := z.1) (N := z.2) (nw := nw) C hX hLn hi (by omega) (by omega) S.M hS1 hS2 hz T1 (fun h => absurd h hk) (G_widen (by omega) (by omega) (next (Kg K) _ _ _ _ _ C S2 R))
  · refine g_aload_n (pc' := 580) C dL_law_579 rfl rfl ?_
    refine g_aload_n (pc' := 581) C dL_law_580 rfl rfl ?_
    refine g_iload (pc' := 583) C dL_law_581 rfl rfl ?_
    refine g_iconst (v := 1) (pc' := 584) C dL_law_583 (by decide) rfl ?_
    refine g_iadd (pc' := 585) C dL_law_584 rfl ?_
    refine g_sld (pc' := 586) C hX (i + 1) (nI_add i 1) (by omega) (by omega) dL_law_585 rfl ?_
    refine g_aload_n (pc' := 587) C dL_law_586 rfl rfl ?_
    refine g_iload (pc' := 589) C dL_law_587 rfl rfl ?_
    refine g_iconst (v := 2) (pc' := 590) C dL_law_589 (by decide) rfl ?_
    refine g_iadd (pc' := 591) C dL_law_590 rfl ?_
    refine g_sld (pc' := 592) C hX (i + 2) (nI_add i 2) (by omega) (by omega) dL_law_591 rfl ?_
    refine g_if_eq (tgt := 599) (pc' := 595) C dL_law_592 (by decide) rfl (fun h => absurd h hz) (fun _ => ?_)
    refine g_iconst (v := 1) (pc' := 596) C dL_law_595 (by decide) rfl ?_
    refine g_goto (tgt := 600) C dL_law_596 (by decide) ?_
    refine g_aload_n (pc' := 601) C dL_law_600 rfl rfl ?_
    refine x_callS (pc' := 604) (mc := 1) (ms := 6) (As := [.ref ((Kg K).2.2 0 0), .int (xs (i + 1)), .int (1 : Int32), .ref ((Kg K).2.2 14 0)]) (post := fun sz => LW (cKs I z.1 (xs (i + 1)) 3) (Kg K) z (gE (Kg K) z) ((I 2 (xs (i + 1)).toNatClampNeg 7).toInt64) I P (upI I 2 (xs (i + 1)).toNatClampNeg 5 (if (1 : Int32) = 0 then 2 else 0)) (P)) C hXK cw_L_settle (fun sz => w_settle hfl S.X sz) dL_law_601 ⟨by decide +kernel, by decide +kernel, (by decide +kernel : (parseMethodDescriptor yL_settle.desc).map (fun d => d.parameters.length) = some 4)⟩ ⟨⟨Nat.le_of_ble_eq_true rfl, Nat.le_of_ble_eq_true rfl⟩, rfl, rfl⟩ rfl (Nat.le_of_ble_eq_true rfl) ⟨by show c + 1 ≤ 601024; omega, by show n + 6 ≤ 7293034; omega⟩ rfl (fun sz v' g' z' I' P' O' hA' hp => ?_)
    obtain ⟨rfl, hp⟩ := hp
    rcases hp with ⟨hk, hge, e1, e2, hO⟩ | ⟨hk, e3, e4, e1, e2⟩
    · have sJ : Sim z nw I P (upI I 2 (xs (i + 1)).toNatClampNeg 5 (if (1 : Int32) = 0 then 2 else 0)) := S.cJ (show Og I (upI I 2 (xs (i + 1)).toNatClampNeg 5 (if (1 : Int32) = 0 then 2 else 0)) from (Og.rf.up (by decide)))
      rw [e1, e2]
      have T := s_settle (x := (xs (i + 1))) (y := (1 : Int32)) sJ
      obtain ⟨T1, T2, -⟩ := T
      obtain ⟨T3, T4⟩ := T2 hk
      have S2 := T4.cI (show Om _ (mO6 (upI I 2 (xs (i + 1)).toNatClampNeg 5 (if (1 : Int32) = 0 then 2 else 0)) z.1 (xs (i + 1)) (1 : Int32)).1 from om_O6)
      obtain ⟨e3, e4⟩ := hge
      rw [e3, e4]
      rw [Kw_self]
      exact t_settle1 (M := z.1) (N := z.2) (nw := nw) C hX hLn hi (by omega) (by omega) sJ.M sJ.A.n.2.1 hS2 hz T1 (fun _ => hO.trans (congrArg Int32.toInt64 T3)) (G_widen (by omega) (by omega) (next (Kg K) _ _ _ _ _ C S2 R))
    · have T := s_settle (x := (xs (i + 1))) (y := (1 : Int32)) S
      obtain ⟨T1, -, T2⟩ := T
      have S2 := (T2 hk).cI (show Om _ (mO6 I z.1 (xs (i + 1)) (1 : Int32)).1 from om_O6)
      rw [e3, e4, e1, e2, Kw_self]
      exact t_settle1 (M := z.1) (N := z.2) (nw := nw) C hX hLn hi (by omega) (by omega) S.M hS1 hS2 hz T1 (fun h => absurd h hk) (G_widen (by omega) (by omega) (next (Kg K) _ _ _ _ _ C S2 R))
set_option maxHeartbeats 1000000 in
set_option maxRecDepth 20000 in
theorem q_close {K : wK} {z : wZ} {nw : Nat} {I : wI} {P : wP} {O : wO} {c n b Ln i : Nat} {xs : Nat → Int32} (hfl : (Kl K).stackTraces = false) (C : Cx K cL_law RL 7 (some .boolean) room_1 z) (hXK : XK K) (hX : SX K b Ln xs) (hLn : Ln ≤ 3072) (hi : i + 6 ≤ Ln) (hc : c + 2 ≤ 601024) (hn : n + 14 ≤ 7293034) (S : Sim z nw I P I) (R : RF z P) (next : Nx K b i c n) : G K z I P O c n 663 [(0, .ref b), (1, .ref ((Kg K).2.2 0 0)), (2, .ref ((Kg K).2.2 12 0)), (3, .ref ((Kg K).2.2 14 0)), (4, .int (nI i))] [] := by
  have hS1 := S.A.n.2.1
  have hS2 := S.A.n.2.2
  refine g_aload_n (pc' := 664) C dL_law_663 rfl rfl ?_
  refine g_aload_n (pc' := 665) C dL_law_664 rfl rfl ?_
  refine g_iload (pc' := 667) C dL_law_665 rfl rfl ?_
  refine g_iconst (v := 1) (pc' := 668) C dL_law_667 (by decide) rfl ?_
  refine g_iadd (pc' := 669) C dL_law_668 rfl ?_
  refine g_sld (pc' := 670) C hX (i + 1) (nI_add i 1) (by omega) (by omega) dL_law_669 rfl ?_
  refine g_aload_n (pc' := 671) C dL_law_670 rfl rfl ?_
  refine x_callS (pc' := 674) (mc := 1) (ms := 6) (As := [.ref ((Kg K).2.2 0 0), .int (xs (i + 1)), .ref ((Kg K).2.2 14 0)]) (post := fun sz => LW (cKs I z.1 (xs (i + 1)) 2) (Kg K) z (gE (Kg K) z) ((I 2 (xs (i + 1)).toNatClampNeg 6).toInt64) I P (upI I 2 (xs (i + 1)).toNatClampNeg 5 4) (P)) C hXK cw_L_close (fun sz => w_close hfl S.X sz) dL_law_671 ⟨by decide +kernel, by decide +kernel, (by decide +kernel : (parseMethodDescriptor yL_close.desc).map (fun d => d.parameters.length) = some 3)⟩ ⟨⟨Nat.le_of_ble_eq_true rfl, Nat.le_of_ble_eq_true rfl⟩, rfl, rfl⟩ rfl (Nat.le_of_ble_eq_true rfl) ⟨by show c + 1 ≤ 601024; omega, by show n + 6 ≤ 7293034; omega⟩ rfl (fun sz v' g' z' I' P' O' hA' hp => ?_)
  obtain ⟨rfl, hp⟩ := hp
  rcases hp with ⟨hk, hge, e1, e2, hO⟩ | ⟨hk, e3, e4, e1, e2⟩
  · have sJ : Sim z nw I P (upI I 2 (xs (i + 1)).toNatClampNeg 5 4) := S.cJ (show Og I (upI I 2 (xs (i + 1)).toNatClampNeg 5 4) from (Og.rf.up (by decide)))
    rw [e1, e2]
    have T := s_close (x := (xs (i + 1))) sJ
    obtain ⟨T1, T2, -⟩ := T
    obtain ⟨T3, T4⟩ := T2 hk
    have S2 := T4.cI (show Om _ (mO7 (upI I 2 (xs (i + 1)).toNatClampNeg 5 4) z.1 (xs (i + 1))).1 from om_O7)
    obtain ⟨e3, e4⟩ := hge
    rw [e3, e4]
    rw [Kw_self]
    exact t_close (M := z.1) (N := z.2) (nw := nw) C hX hLn hi (by omega) (by omega) sJ.M sJ.A.n.2.1 hS2 T1 (fun _ => hO.trans (congrArg Int32.toInt64 T3)) (G_widen (by omega) (by omega) (next (Kg K) _ _ _ _ _ C S2 R))
  · have T := s_close (x := (xs (i + 1))) S
    obtain ⟨T1, -, T2⟩ := T
    have S2 := (T2 hk).cI (show Om _ (mO7 I z.1 (xs (i + 1))).1 from om_O7)
    rw [e3, e4, e1, e2, Kw_self]
    exact t_close (M := z.1) (N := z.2) (nw := nw) C hX hLn hi (by omega) (by omega) S.M hS1 hS2 T1 (fun h => absurd h hk) (G_widen (by omega) (by omega) (next (Kg K) _ _ _ _ _ C S2 R))
set_option maxHeartbeats 1000000 in
set_option maxRecDepth 20000 in
theorem q_plan {K : wK} {z : wZ} {nw : Nat} {I : wI} {P : wP} {O : wO} {c n b Ln i : Nat} {xs : Nat → Int32} (hfl : (Kl K).stackTraces = false) (C : Cx K cL_law RL 7 (some .boolean) room_1 z) (hXK : XK K) (hX : SX K b Ln xs) (hLn : Ln ≤ 3072) (hi : i + 6 ≤ Ln) (hc : c + 2 ≤ 601024) (hn : n + 14 ≤ 7293034) (S : Sim z nw I P I) (R : RF z P) (next : Nx K b i c n) : G K z I P O c n 719 [(0, .ref b), (1, .ref ((Kg K).2.2 0 0)), (2, .ref ((Kg K).2.2 12 0)), (3, .ref ((Kg K).2.2 14 0)), (4, .int (nI i))] [] := by
  have hS1 := S.A.n.2.1
  have hS2 := S.A.n.2.2
  refine g_aload_n (pc' := 720) C dL_law_719 rfl rfl ?_
  refine g_aload_n (pc' := 721) C dL_law_720 rfl rfl ?_
  refine g_iload (pc' := 723) C dL_law_721 rfl rfl ?_
  refine g_iconst (v := 1) (pc' := 724) C dL_law_723 (by decide) rfl ?_
  refine g_iadd (pc' := 725) C dL_law_724 rfl ?_
  refine g_sld (pc' := 726) C hX (i + 1) (nI_add i 1) (by omega) (by omega) dL_law_725 rfl ?_
  refine g_aload_n (pc' := 727) C dL_law_726 rfl rfl ?_
  refine g_iload (pc' := 729) C dL_law_727 rfl rfl ?_
  refine g_iconst (v := 2) (pc' := 730) C dL_law_729 (by decide) rfl ?_
  refine g_iadd (pc' := 731) C dL_law_730 rfl ?_
  refine g_sld (pc' := 732) C hX (i + 2) (nI_add i 2) (by omega) (by omega) dL_law_731 rfl ?_
  refine g_aload_n (pc' := 733) C dL_law_732 rfl rfl ?_
  refine g_iload (pc' := 735) C dL_law_733 rfl rfl ?_
  refine g_iconst (v := 3) (pc' := 736) C dL_law_735 (by decide) rfl ?_
  refine g_iadd (pc' := 737) C dL_law_736 rfl ?_
  refine g_sld (pc' := 738) C hX (i + 3) (nI_add i 3) (by omega) (by omega) dL_law_737 rfl ?_
  refine g_aload_n (pc' := 739) C dL_law_738 rfl rfl ?_
  refine g_iload (pc' := 741) C dL_law_739 rfl rfl ?_
  refine g_iconst (v := 4) (pc' := 742) C dL_law_741 (by decide) rfl ?_
  refine g_iadd (pc' := 743) C dL_law_742 rfl ?_
  refine g_sld (pc' := 744) C hX (i + 4) (nI_add i 4) (by omega) (by omega) dL_law_743 rfl ?_
  refine g_aload_n (pc' := 745) C dL_law_744 rfl rfl ?_
  refine g_iload (pc' := 747) C dL_law_745 rfl rfl ?_
  refine g_iconst (v := 5) (pc' := 748) C dL_law_747 (by decide) rfl ?_
  refine g_iadd (pc' := 749) C dL_law_748 rfl ?_
  refine g_sld (pc' := 750) C hX (i + 5) (nI_add i 5) (by omega) (by omega) dL_law_749 rfl ?_
  refine g_aload_n (pc' := 751) C dL_law_750 rfl rfl ?_
  refine x_callS (pc' := 754) (mc := 2) (ms := 14) (As := [.ref ((Kg K).2.2 0 0), .int (xs (i + 1)), .int (xs (i + 2)), .int (xs (i + 3)), .int (xs (i + 4)), .int (xs (i + 5)), .ref ((Kg K).2.2 14 0)]) (post := fun sz => LW (cK8 I P z.1 z.2 (xs (i + 1)) (xs (i + 2)) (xs (i + 3)) (xs (i + 4)) (xs (i + 5))) (Kg K) z (gN (Kg K) z sz) ((nI z.2).toInt64) I P ((cO8 I P z.2 (xs (i + 1)) (xs (i + 2)) (xs (i + 3)) (xs (i + 4)) (xs (i + 5))).1) ((cO8 I P z.2 (xs (i + 1)) (xs (i + 2)) (xs (i + 3)) (xs (i + 4)) (xs (i + 5))).2)) C hXK cw_L_plan (fun sz => w_plan hfl S.X R sz) dL_law_751 ⟨by decide +kernel, by decide +kernel, (by decide +kernel : (parseMethodDescriptor yL_plan.desc).map (fun d => d.parameters.length) = some 7)⟩ ⟨⟨Nat.le_of_ble_eq_true rfl, Nat.le_of_ble_eq_true rfl⟩, rfl, rfl⟩ rfl (Nat.le_of_ble_eq_true rfl) ⟨by show c + 2 ≤ 601024; omega, by show n + 14 ≤ 7293034; omega⟩ rfl (fun sz v' g' z' I' P' O' hA' hp => ?_)
  obtain ⟨rfl, hp⟩ := hp
  rcases hp with ⟨hk, hge, e1, e2, hO⟩ | ⟨hk, e3, e4, e1, e2⟩
  · have sJ : Sim z nw I P ((cO8 I P z.2 (xs (i + 1)) (xs (i + 2)) (xs (i + 3)) (xs (i + 4)) (xs (i + 5))).1) := S.cJ (show Og I ((cO8 I P z.2 (xs (i + 1)) (xs (i + 2)) (xs (i + 3)) (xs (i + 4)) (xs (i + 5))).1) from og_O8)
    rw [e1, e2]
    have T := s_plan (x := (xs (i + 1))) (r := (xs (i + 2))) (w := (xs (i + 3))) (a := (xs (i + 4))) (y := (xs (i + 5))) sJ
    obtain ⟨T1, T2, -⟩ := T
    obtain ⟨T3, T4⟩ := T2 hk
    have S2 := T4.cI (show Om _ (mO8 ((cO8 I P z.2 (xs (i + 1)) (xs (i + 2)) (xs (i + 3)) (xs (i + 4)) (xs (i + 5))).1) z.1 z.2 (xs (i + 1)) (xs (i + 2)) (xs (i + 3)) (xs (i + 4)) (xs (i + 5))).1 from om_O8)
    obtain ⟨⟨d, e, hd, he, e3⟩, e4⟩ := hge
    rw [e3, e4]
    have hd2 : Ka K d := by rcases hd with ⟨k, i, hki, rfl⟩ | hd; exact C.al hki; exact hA' d hd
    have he2 : Ka K e := by rcases he with ⟨k, i, hki, rfl⟩ | he; exact C.al hki; exact hA' e he
    have C' : Cx (Kw K (gUp (gUp (Kg K) 3 z.2 d) 11 z.2 e)) cL_law RL 7 (some .boolean) room_1 (z.1, z.2 + 1) := C.up rfl rfl (fun k i hw => by
      rcases wAl_H hw with hw | ⟨rfl, rfl⟩ | ⟨rfl, rfl⟩
      · rw [gUp_H hw]; exact C.al hw
      · rw [show (gUp (gUp (Kg K) 3 z.2 d) 11 z.2 e).2.2 3 z.2 = d from by show (if 3 = 11 ∧ z.2 = z.2 then e else if 3 = 3 ∧ z.2 = z.2 then d else (Kg K).2.2 3 z.2) = d; simp]; exact hd2
      · rw [show (gUp (gUp (Kg K) 3 z.2 d) 11 z.2 e).2.2 11 z.2 = e from if_pos ⟨rfl, rfl⟩]; exact he2)
    exact t_plan (K := Kw K (gUp (gUp (Kg K) 3 z.2 d) 11 z.2 e)) (M := z.1) (N := z.2) (nw := nw) C' (hX.up _) hLn hi (by omega) (by omega) sJ.M sJ.A.n.2.1 hS2 T1 (fun _ => hO.trans (congrArg Int32.toInt64 T3)) (G_widen (by omega) (by omega) (next _ _ _ _ _ _ C' S2 (rf_O8 R rfl (k8_lt hk (by have := S.X.1; omega)))))
  · have T := s_plan (x := (xs (i + 1))) (r := (xs (i + 2))) (w := (xs (i + 3))) (a := (xs (i + 4))) (y := (xs (i + 5))) S
    obtain ⟨T1, -, T2⟩ := T
    have S2 := (T2 hk).cI (show Om _ (mO8 I z.1 z.2 (xs (i + 1)) (xs (i + 2)) (xs (i + 3)) (xs (i + 4)) (xs (i + 5))).1 from om_O8)
    rw [e3, e4, e1, e2, Kw_self]
    exact t_plan (M := z.1) (N := z.2) (nw := nw) C hX hLn hi (by omega) (by omega) S.M hS1 hS2 T1 (fun h => absurd h hk) (G_widen (by omega) (by omega) (next (Kg K) _ _ _ _ _ C S2 R))
set_option maxHeartbeats 1000000 in
set_option maxRecDepth 20000 in
theorem q_move {K : wK} {z : wZ} {nw : Nat} {I : wI} {P : wP} {O : wO} {c n b Ln i : Nat} {xs : Nat → Int32} (hfl : (Kl K).stackTraces = false) (C : Cx K cL_law RL 7 (some .boolean) room_1 z) (hXK : XK K) (hX : SX K b Ln xs) (hLn : Ln ≤ 3072) (hi : i + 6 ≤ Ln) (hc : c + 2 ≤ 601024) (hn : n + 14 ≤ 7293034) (S : Sim z nw I P I) (R : RF z P) (next : Nx K b i c n) : G K z I P O c n 823 [(0, .ref b), (1, .ref ((Kg K).2.2 0 0)), (2, .ref ((Kg K).2.2 12 0)), (3, .ref ((Kg K).2.2 14 0)), (4, .int (nI i))] [] := by
  have hS1 := S.A.n.2.1
  have hS2 := S.A.n.2.2
  refine g_aload_n (pc' := 824) C dL_law_823 rfl rfl ?_
  refine g_aload_n (pc' := 825) C dL_law_824 rfl rfl ?_
  refine g_iload (pc' := 827) C dL_law_825 rfl rfl ?_
  refine g_iconst (v := 1) (pc' := 828) C dL_law_827 (by decide) rfl ?_
  refine g_iadd (pc' := 829) C dL_law_828 rfl ?_
  refine g_sld (pc' := 830) C hX (i + 1) (nI_add i 1) (by omega) (by omega) dL_law_829 rfl ?_
  refine g_aload_n (pc' := 831) C dL_law_830 rfl rfl ?_
  refine g_iload (pc' := 833) C dL_law_831 rfl rfl ?_
  refine g_iconst (v := 2) (pc' := 834) C dL_law_833 (by decide) rfl ?_
  refine g_iadd (pc' := 835) C dL_law_834 rfl ?_
  refine g_sld (pc' := 836) C hX (i + 2) (nI_add i 2) (by omega) (by omega) dL_law_835 rfl ?_
  refine g_aload_n (pc' := 837) C dL_law_836 rfl rfl ?_
  refine g_iload (pc' := 839) C dL_law_837 rfl rfl ?_
  refine g_iconst (v := 3) (pc' := 840) C dL_law_839 (by decide) rfl ?_
  refine g_iadd (pc' := 841) C dL_law_840 rfl ?_
  refine g_sld (pc' := 842) C hX (i + 3) (nI_add i 3) (by omega) (by omega) dL_law_841 rfl ?_
  refine g_aload_n (pc' := 843) C dL_law_842 rfl rfl ?_
  refine g_iload (pc' := 845) C dL_law_843 rfl rfl ?_
  refine g_iconst (v := 4) (pc' := 846) C dL_law_845 (by decide) rfl ?_
  refine g_iadd (pc' := 847) C dL_law_846 rfl ?_
  refine g_sld (pc' := 848) C hX (i + 4) (nI_add i 4) (by omega) (by omega) dL_law_847 rfl ?_
  refine g_aload_n (pc' := 849) C dL_law_848 rfl rfl ?_
  refine x_callS (pc' := 852) (mc := 1) (ms := 6) (As := [.ref ((Kg K).2.2 0 0), .int (xs (i + 1)), .int (xs (i + 2)), .int (xs (i + 3)), .int (xs (i + 4)), .ref ((Kg K).2.2 14 0)]) (post := fun sz => LW (cK9 I P z.2 (xs (i + 1)) (xs (i + 2)) (xs (i + 3)) (xs (i + 4))) (Kg K) z (gE (Kg K) z) (((cO9 I P (xs (i + 1)) (xs (i + 2)) (xs (i + 3)) (xs (i + 4))).1 2 (mx (cO9 I P (xs (i + 1)) (xs (i + 2)) (xs (i + 3)) (xs (i + 4))).2 (xs (i + 1)).toNatClampNeg) 6).toInt64) I P ((cO9 I P (xs (i + 1)) (xs (i + 2)) (xs (i + 3)) (xs (i + 4))).1) ((cO9 I P (xs (i + 1)) (xs (i + 2)) (xs (i + 3)) (xs (i + 4))).2)) C hXK cw_L_move (fun sz => w_move hfl S.X sz) dL_law_849 ⟨by decide +kernel, by decide +kernel, (by decide +kernel : (parseMethodDescriptor yL_move.desc).map (fun d => d.parameters.length) = some 6)⟩ ⟨⟨Nat.le_of_ble_eq_true rfl, Nat.le_of_ble_eq_true rfl⟩, rfl, rfl⟩ rfl (Nat.le_of_ble_eq_true rfl) ⟨by show c + 1 ≤ 601024; omega, by show n + 6 ≤ 7293034; omega⟩ rfl (fun sz v' g' z' I' P' O' hA' hp => ?_)
  obtain ⟨rfl, hp⟩ := hp
  rcases hp with ⟨hk, hge, e1, e2, hO⟩ | ⟨hk, e3, e4, e1, e2⟩
  · have sJ : Sim z nw I P ((cO9 I P (xs (i + 1)) (xs (i + 2)) (xs (i + 3)) (xs (i + 4))).1) := S.cJ (show Og I ((cO9 I P (xs (i + 1)) (xs (i + 2)) (xs (i + 3)) (xs (i + 4))).1) from og_O9)
    rw [e1, e2]
    have T := s_move (x := (xs (i + 1))) (r := (xs (i + 2))) (w := (xs (i + 3))) (a := (xs (i + 4))) sJ
    obtain ⟨T1, T2, -⟩ := T
    obtain ⟨T3, T4⟩ := T2 hk
    have S2 := T4.cI (show Om _ (mO9 ((cO9 I P (xs (i + 1)) (xs (i + 2)) (xs (i + 3)) (xs (i + 4))).1) z.2 (xs (i + 1)) (xs (i + 2)) (xs (i + 3)) (xs (i + 4))).1 from om_O9)
    obtain ⟨e3, e4⟩ := hge
    rw [e3, e4]
    rw [Kw_self]
    exact t_move (M := z.1) (N := z.2) (nw := nw) C hX hLn hi (by omega) (by omega) sJ.M sJ.A.n.2.1 hS2 T1 (fun _ => hO.trans (congrArg Int32.toInt64 T3)) (G_widen (by omega) (by omega) (next (Kg K) _ _ _ _ _ C S2 (rf_O9 R S (k9_lt hk S.X.2.1))))
  · have T := s_move (x := (xs (i + 1))) (r := (xs (i + 2))) (w := (xs (i + 3))) (a := (xs (i + 4))) S
    obtain ⟨T1, -, T2⟩ := T
    have S2 := (T2 hk).cI (show Om _ (mO9 I z.2 (xs (i + 1)) (xs (i + 2)) (xs (i + 3)) (xs (i + 4))).1 from om_O9)
    rw [e3, e4, e1, e2, Kw_self]
    exact t_move (M := z.1) (N := z.2) (nw := nw) C hX hLn hi (by omega) (by omega) S.M hS1 hS2 T1 (fun h => absurd h hk) (G_widen (by omega) (by omega) (next (Kg K) _ _ _ _ _ C S2 R))
set_option maxHeartbeats 1000000 in
set_option maxRecDepth 20000 in
theorem q_drop {K : wK} {z : wZ} {nw : Nat} {I : wI} {P : wP} {O : wO} {c n b Ln i : Nat} {xs : Nat → Int32} (hfl : (Kl K).stackTraces = false) (C : Cx K cL_law RL 7 (some .boolean) room_1 z) (hXK : XK K) (hX : SX K b Ln xs) (hLn : Ln ≤ 3072) (hi : i + 6 ≤ Ln) (hc : c + 2 ≤ 601024) (hn : n + 14 ≤ 7293034) (S : Sim z nw I P I) (R : RF z P) (next : Nx K b i c n) : G K z I P O c n 915 [(0, .ref b), (1, .ref ((Kg K).2.2 0 0)), (2, .ref ((Kg K).2.2 12 0)), (3, .ref ((Kg K).2.2 14 0)), (4, .int (nI i))] [] := by
  have hS1 := S.A.n.2.1
  have hS2 := S.A.n.2.2
  refine g_aload_n (pc' := 916) C dL_law_915 rfl rfl ?_
  refine g_aload_n (pc' := 917) C dL_law_916 rfl rfl ?_
  refine g_iload (pc' := 919) C dL_law_917 rfl rfl ?_
  refine g_iconst (v := 1) (pc' := 920) C dL_law_919 (by decide) rfl ?_
  refine g_iadd (pc' := 921) C dL_law_920 rfl ?_
  refine g_sld (pc' := 922) C hX (i + 1) (nI_add i 1) (by omega) (by omega) dL_law_921 rfl ?_
  refine g_aload_n (pc' := 923) C dL_law_922 rfl rfl ?_
  refine x_callS (pc' := 926) (mc := 1) (ms := 6) (As := [.ref ((Kg K).2.2 0 0), .int (xs (i + 1)), .ref ((Kg K).2.2 14 0)]) (post := fun sz => LW (cK10 I z.2 (xs (i + 1))) (Kg K) z (gE (Kg K) z) (((cO10 I P (xs (i + 1))).1 2 (mx (cO10 I P (xs (i + 1))).2 (xs (i + 1)).toNatClampNeg) 6).toInt64) I P ((cO10 I P (xs (i + 1))).1) ((cO10 I P (xs (i + 1))).2)) C hXK cw_L_drop (fun sz => w_drop hfl S.X sz) dL_law_923 ⟨by decide +kernel, by decide +kernel, (by decide +kernel : (parseMethodDescriptor yL_drop.desc).map (fun d => d.parameters.length) = some 3)⟩ ⟨⟨Nat.le_of_ble_eq_true rfl, Nat.le_of_ble_eq_true rfl⟩, rfl, rfl⟩ rfl (Nat.le_of_ble_eq_true rfl) ⟨by show c + 1 ≤ 601024; omega, by show n + 6 ≤ 7293034; omega⟩ rfl (fun sz v' g' z' I' P' O' hA' hp => ?_)
  obtain ⟨rfl, hp⟩ := hp
  rcases hp with ⟨hk, hge, e1, e2, hO⟩ | ⟨hk, e3, e4, e1, e2⟩
  · have sJ : Sim z nw I P ((cO10 I P (xs (i + 1))).1) := S.cJ (show Og I ((cO10 I P (xs (i + 1))).1) from og_O10)
    rw [e1, e2]
    have T := s_drop (x := (xs (i + 1))) sJ
    obtain ⟨T1, T2, -⟩ := T
    obtain ⟨T3, T4⟩ := T2 hk
    have S2 := T4.cI (show Om _ (mO10 ((cO10 I P (xs (i + 1))).1) z.2 (xs (i + 1))).1 from om_O10)
    obtain ⟨e3, e4⟩ := hge
    rw [e3, e4]
    rw [Kw_self]
    exact t_drop (M := z.1) (N := z.2) (nw := nw) C hX hLn hi (by omega) (by omega) sJ.M sJ.A.n.2.1 hS2 T1 (fun _ => hO.trans (congrArg Int32.toInt64 T3)) (G_widen (by omega) (by omega) (next (Kg K) _ _ _ _ _ C S2 (rf_O10 R S (k10_lt hk S.X.2.1))))
  · have T := s_drop (x := (xs (i + 1))) S
    obtain ⟨T1, -, T2⟩ := T
    have S2 := (T2 hk).cI (show Om _ (mO10 I z.2 (xs (i + 1))).1 from om_O10)
    rw [e3, e4, e1, e2, Kw_self]
    exact t_drop (M := z.1) (N := z.2) (nw := nw) C hX hLn hi (by omega) (by omega) S.M hS1 hS2 T1 (fun h => absurd h hk) (G_widen (by omega) (by omega) (next (Kg K) _ _ _ _ _ C S2 R))
set_option maxHeartbeats 1000000 in
set_option maxRecDepth 20000 in
theorem q_notice {K : wK} {z : wZ} {nw : Nat} {I : wI} {P : wP} {O : wO} {c n b Ln i : Nat} {xs : Nat → Int32} (hfl : (Kl K).stackTraces = false) (C : Cx K cL_law RL 7 (some .boolean) room_1 z) (hXK : XK K) (hX : SX K b Ln xs) (hLn : Ln ≤ 3072) (hi : i + 6 ≤ Ln) (hc : c + 2 ≤ 601024) (hn : n + 14 ≤ 7293034) (S : Sim z nw I P I) (R : RF z P) (next : Nx K b i c n) : G K z I P O c n 971 [(0, .ref b), (1, .ref ((Kg K).2.2 0 0)), (2, .ref ((Kg K).2.2 12 0)), (3, .ref ((Kg K).2.2 14 0)), (4, .int (nI i))] [] := by
  have hS1 := S.A.n.2.1
  have hS2 := S.A.n.2.2
  refine g_aload_n (pc' := 972) C dL_law_971 rfl rfl ?_
  refine g_aload_n (pc' := 973) C dL_law_972 rfl rfl ?_
  refine g_iload (pc' := 975) C dL_law_973 rfl rfl ?_
  refine g_iconst (v := 1) (pc' := 976) C dL_law_975 (by decide) rfl ?_
  refine g_iadd (pc' := 977) C dL_law_976 rfl ?_
  refine g_sld (pc' := 978) C hX (i + 1) (nI_add i 1) (by omega) (by omega) dL_law_977 rfl ?_
  refine g_aload_n (pc' := 979) C dL_law_978 rfl rfl ?_
  refine g_iload (pc' := 981) C dL_law_979 rfl rfl ?_
  refine g_iconst (v := 2) (pc' := 982) C dL_law_981 (by decide) rfl ?_
  refine g_iadd (pc' := 983) C dL_law_982 rfl ?_
  refine g_sld (pc' := 984) C hX (i + 2) (nI_add i 2) (by omega) (by omega) dL_law_983 rfl ?_
  refine g_aload_n (pc' := 985) C dL_law_984 rfl rfl ?_
  refine x_callS (pc' := 988) (mc := 1) (ms := 6) (As := [.ref ((Kg K).2.2 0 0), .int (xs (i + 1)), .int (xs (i + 2)), .ref ((Kg K).2.2 14 0)]) (post := fun sz => LW (cK11 I P z.2 (xs (i + 1)) (xs (i + 2))) (Kg K) z (gE (Kg K) z) ((if (cO11 I P (xs (i + 1)) (xs (i + 2))).2 = 0 then 0 else 1)) I P ((cO11 I P (xs (i + 1)) (xs (i + 2))).1) (P)) C hXK cw_L_notice (fun sz => w_notice hfl S.X sz) dL_law_985 ⟨by decide +kernel, by decide +kernel, (by decide +kernel : (parseMethodDescriptor yL_notice.desc).map (fun d => d.parameters.length) = some 4)⟩ ⟨⟨Nat.le_of_ble_eq_true rfl, Nat.le_of_ble_eq_true rfl⟩, rfl, rfl⟩ rfl (Nat.le_of_ble_eq_true rfl) ⟨by show c + 1 ≤ 601024; omega, by show n + 6 ≤ 7293034; omega⟩ rfl (fun sz v' g' z' I' P' O' hA' hp => ?_)
  obtain ⟨rfl, hp⟩ := hp
  rcases hp with ⟨hk, hge, e1, e2, hO⟩ | ⟨hk, e3, e4, e1, e2⟩
  · have sJ : Sim z nw I P ((cO11 I P (xs (i + 1)) (xs (i + 2))).1) := S.cJ (show Og I ((cO11 I P (xs (i + 1)) (xs (i + 2))).1) from og_O11)
    rw [e1, e2]
    have T := s_notice (x := (xs (i + 1))) (y := (xs (i + 2))) sJ
    obtain ⟨T1, T2, -⟩ := T
    obtain ⟨T3, T4⟩ := T2 hk
    have S2 := T4.cI (show Om _ (mO11 ((cO11 I P (xs (i + 1)) (xs (i + 2))).1) z.2 (xs (i + 1)) (xs (i + 2))).1 from om_O11)
    obtain ⟨e3, e4⟩ := hge
    rw [e3, e4]
    rw [Kw_self]
    exact t_notice (M := z.1) (N := z.2) (nw := nw) C hX hLn hi (by omega) (by omega) sJ.M sJ.A.n.2.1 hS2 T1 (fun _ => by rw [hO, T3]) (G_widen (by omega) (by omega) (next (Kg K) _ _ _ _ _ C S2 R))
  · have T := s_notice (x := (xs (i + 1))) (y := (xs (i + 2))) S
    obtain ⟨T1, -, T2⟩ := T
    have S2 := (T2 hk).cI (show Om _ (mO11 I z.2 (xs (i + 1)) (xs (i + 2))).1 from om_O11)
    rw [e3, e4, e1, e2, Kw_self]
    exact t_notice (M := z.1) (N := z.2) (nw := nw) C hX hLn hi (by omega) (by omega) S.M hS1 hS2 T1 (fun h => absurd h hk) (G_widen (by omega) (by omega) (next (Kg K) _ _ _ _ _ C S2 R))
set_option maxHeartbeats 1000000 in
set_option maxRecDepth 20000 in
theorem q_pass {K : wK} {z : wZ} {nw : Nat} {I : wI} {P : wP} {O : wO} {c n b Ln i : Nat} {xs : Nat → Int32} (hfl : (Kl K).stackTraces = false) (C : Cx K cL_law RL 7 (some .boolean) room_1 z) (hXK : XK K) (hX : SX K b Ln xs) (hLn : Ln ≤ 3072) (hi : i + 6 ≤ Ln) (hc : c + 2 ≤ 601024) (hn : n + 14 ≤ 7293034) (S : Sim z nw I P I) (R : RF z P) (next : Nx K b i c n) : G K z I P O c n 1046 [(0, .ref b), (1, .ref ((Kg K).2.2 0 0)), (2, .ref ((Kg K).2.2 12 0)), (3, .ref ((Kg K).2.2 14 0)), (4, .int (nI i))] [] := by
  have hS1 := S.A.n.2.1
  have hS2 := S.A.n.2.2
  refine g_aload_n (pc' := 1047) C dL_law_1046 rfl rfl ?_
  refine g_aload_n (pc' := 1048) C dL_law_1047 rfl rfl ?_
  refine g_iload (pc' := 1050) C dL_law_1048 rfl rfl ?_
  refine g_iconst (v := 1) (pc' := 1051) C dL_law_1050 (by decide) rfl ?_
  refine g_iadd (pc' := 1052) C dL_law_1051 rfl ?_
  refine g_sld (pc' := 1053) C hX (i + 1) (nI_add i 1) (by omega) (by omega) dL_law_1052 rfl ?_
  refine g_aload_n (pc' := 1054) C dL_law_1053 rfl rfl ?_
  refine x_callS (pc' := 1057) (mc := 1) (ms := 6) (As := [.ref ((Kg K).2.2 0 0), .int (xs (i + 1)), .ref ((Kg K).2.2 14 0)]) (post := fun sz => LW (cK12 (I 0 0 6) (xs (i + 1))) (Kg K) z (gE (Kg K) z) (((cPL P z (xs (i + 1)).toNatClampNeg (I, 0)).2).toInt64) I P ((cPL P z (xs (i + 1)).toNatClampNeg (I, 0)).1) (P)) C hXK cw_L_pass (fun sz => w_pass hfl S.X sz) dL_law_1054 ⟨by decide +kernel, by decide +kernel, (by decide +kernel : (parseMethodDescriptor yL_pass.desc).map (fun d => d.parameters.length) = some 3)⟩ ⟨⟨Nat.le_of_ble_eq_true rfl, Nat.le_of_ble_eq_true rfl⟩, rfl, rfl⟩ rfl (Nat.le_of_ble_eq_true rfl) ⟨by show c + 1 ≤ 601024; omega, by show n + 6 ≤ 7293034; omega⟩ rfl (fun sz v' g' z' I' P' O' hA' hp => ?_)
  obtain ⟨rfl, hp⟩ := hp
  rcases hp with ⟨hk, hge, e1, e2, hO⟩ | ⟨hk, e3, e4, e1, e2⟩
  · have sJ : Sim z nw I P ((cPL P z (xs (i + 1)).toNatClampNeg (I, 0)).1) := S.cJ (show Og I ((cPL P z (xs (i + 1)).toNatClampNeg (I, 0)).1) from (og_cPL _ (_, 0)))
    rw [e1, e2]
    obtain ⟨nw2, T⟩ := s_pass (x := (xs (i + 1))) sJ
    obtain ⟨T1, T2, -⟩ := T
    obtain ⟨T3, T4⟩ := T2 hk
    have S2 := T4.cI (show Om _ (mO12 ((cPL P z (xs (i + 1)).toNatClampNeg (I, 0)).1) z.1 z.2 (xs (i + 1))).1 from om_O12)
    obtain ⟨e3, e4⟩ := hge
    rw [e3, e4]
    rw [Kw_self]
    exact t_pass (M := z.1) (N := z.2) (nw := nw) C hX hLn hi (by omega) (by omega) sJ.M sJ.A.n.2.1 hS2 T1 (fun _ => hO.trans (congrArg Int32.toInt64 T3)) (G_widen (by omega) (by omega) (next (Kg K) _ _ _ _ _ C S2 R))
  · obtain ⟨nw2, T⟩ := s_pass (x := (xs (i + 1))) S
    obtain ⟨T1, -, T2⟩ := T
    have S2 := (T2 hk).cI (show Om _ (mO12 I z.1 z.2 (xs (i + 1))).1 from om_O12)
    rw [e3, e4, e1, e2, Kw_self]
    exact t_pass (M := z.1) (N := z.2) (nw := nw) C hX hLn hi (by omega) (by omega) S.M hS1 hS2 T1 (fun h => absurd h hk) (G_widen (by omega) (by omega) (next (Kg K) _ _ _ _ _ C S2 R))
set_option maxHeartbeats 1000000 in
set_option maxRecDepth 20000 in
theorem q_clash {K : wK} {z : wZ} {nw : Nat} {I : wI} {P : wP} {O : wO} {c n b Ln i : Nat} {xs : Nat → Int32} (hfl : (Kl K).stackTraces = false) (C : Cx K cL_law RL 7 (some .boolean) room_1 z) (hXK : XK K) (hX : SX K b Ln xs) (hLn : Ln ≤ 3072) (hi : i + 6 ≤ Ln) (hc : c + 2 ≤ 601024) (hn : n + 14 ≤ 7293034) (S : Sim z nw I P I) (R : RF z P) (next : Nx K b i c n) : G K z I P O c n 1102 [(0, .ref b), (1, .ref ((Kg K).2.2 0 0)), (2, .ref ((Kg K).2.2 12 0)), (3, .ref ((Kg K).2.2 14 0)), (4, .int (nI i))] [] := by
  have hS1 := S.A.n.2.1
  have hS2 := S.A.n.2.2
  refine g_aload_n (pc' := 1103) C dL_law_1102 rfl rfl ?_
  refine g_aload_n (pc' := 1104) C dL_law_1103 rfl rfl ?_
  refine g_iload (pc' := 1106) C dL_law_1104 rfl rfl ?_
  refine g_iconst (v := 1) (pc' := 1107) C dL_law_1106 (by decide) rfl ?_
  refine g_iadd (pc' := 1108) C dL_law_1107 rfl ?_
  refine g_sld (pc' := 1109) C hX (i + 1) (nI_add i 1) (by omega) (by omega) dL_law_1108 rfl ?_
  refine g_aload_n (pc' := 1110) C dL_law_1109 rfl rfl ?_
  refine g_iload (pc' := 1112) C dL_law_1110 rfl rfl ?_
  refine g_iconst (v := 2) (pc' := 1113) C dL_law_1112 (by decide) rfl ?_
  refine g_iadd (pc' := 1114) C dL_law_1113 rfl ?_
  refine g_sld (pc' := 1115) C hX (i + 2) (nI_add i 2) (by omega) (by omega) dL_law_1114 rfl ?_
  refine g_aload_n (pc' := 1116) C dL_law_1115 rfl rfl ?_
  refine g_iload (pc' := 1118) C dL_law_1116 rfl rfl ?_
  refine g_iconst (v := 3) (pc' := 1119) C dL_law_1118 (by decide) rfl ?_
  refine g_iadd (pc' := 1120) C dL_law_1119 rfl ?_
  refine g_sld (pc' := 1121) C hX (i + 3) (nI_add i 3) (by omega) (by omega) dL_law_1120 rfl ?_
  refine g_aload_n (pc' := 1122) C dL_law_1121 rfl rfl ?_
  refine g_iload (pc' := 1124) C dL_law_1122 rfl rfl ?_
  refine g_iconst (v := 4) (pc' := 1125) C dL_law_1124 (by decide) rfl ?_
  refine g_iadd (pc' := 1126) C dL_law_1125 rfl ?_
  refine g_sld (pc' := 1127) C hX (i + 4) (nI_add i 4) (by omega) (by omega) dL_law_1126 rfl ?_
  refine g_aload_n (pc' := 1128) C dL_law_1127 rfl rfl ?_
  refine g_iload (pc' := 1130) C dL_law_1128 rfl rfl ?_
  refine g_iconst (v := 5) (pc' := 1131) C dL_law_1130 (by decide) rfl ?_
  refine g_iadd (pc' := 1132) C dL_law_1131 rfl ?_
  refine g_sld (pc' := 1133) C hX (i + 5) (nI_add i 5) (by omega) (by omega) dL_law_1132 rfl ?_
  refine g_aload_n (pc' := 1134) C dL_law_1133 rfl rfl ?_
  refine x_callS (pc' := 1137) (mc := 1) (ms := 6) (As := [.ref ((Kg K).2.2 0 0), .int (xs (i + 1)), .int (xs (i + 2)), .int (xs (i + 3)), .int (xs (i + 4)), .int (xs (i + 5)), .ref ((Kg K).2.2 14 0)]) (post := fun sz => LW (cK13 z.1 (xs (i + 1)) (xs (i + 2)) (xs (i + 3)) (xs (i + 4)) (xs (i + 5))) (Kg K) z (gE (Kg K) z) ((crL I P none (xs (i + 1)).toNatClampNeg (xs (i + 2)) (xs (i + 3)) (xs (i + 4)) (xs (i + 5)) z.2 0 0).toInt64) I P (I) (P)) C hXK cw_L_clash (fun sz => w_clash hfl S.X sz) dL_law_1134 ⟨by decide +kernel, by decide +kernel, (by decide +kernel : (parseMethodDescriptor yL_clash.desc).map (fun d => d.parameters.length) = some 7)⟩ ⟨⟨Nat.le_of_ble_eq_true rfl, Nat.le_of_ble_eq_true rfl⟩, rfl, rfl⟩ rfl (Nat.le_of_ble_eq_true rfl) ⟨by show c + 1 ≤ 601024; omega, by show n + 6 ≤ 7293034; omega⟩ rfl (fun sz v' g' z' I' P' O' hA' hp => ?_)
  obtain ⟨rfl, hp⟩ := hp
  rcases hp with ⟨hk, hge, e1, e2, hO⟩ | ⟨hk, e3, e4, e1, e2⟩
  · have sJ : Sim z nw I P (I) := S.cJ (show Og I (I) from Og.rf)
    rw [e1, e2]
    have T := s_clash (x := (xs (i + 1))) (r := (xs (i + 2))) (w := (xs (i + 3))) (a := (xs (i + 4))) (y := (xs (i + 5))) sJ
    obtain ⟨T1, T2, -⟩ := T
    obtain ⟨T3, T4⟩ := T2 hk
    have S2 := T4.cI (show Om _ (mO13 (I) z.1 z.2 (xs (i + 1)) (xs (i + 2)) (xs (i + 3)) (xs (i + 4)) (xs (i + 5))).1 from om_O13)
    obtain ⟨e3, e4⟩ := hge
    rw [e3, e4]
    rw [Kw_self]
    exact t_clash (M := z.1) (N := z.2) (nw := nw) C hX hLn hi (by omega) (by omega) sJ.M sJ.A.n.2.1 hS2 T1 (fun _ => hO.trans (congrArg Int32.toInt64 T3)) (G_widen (by omega) (by omega) (next (Kg K) _ _ _ _ _ C S2 R))
  · have T := s_clash (x := (xs (i + 1))) (r := (xs (i + 2))) (w := (xs (i + 3))) (a := (xs (i + 4))) (y := (xs (i + 5))) S
    obtain ⟨T1, -, T2⟩ := T
    have S2 := (T2 hk).cI (show Om _ (mO13 I z.1 z.2 (xs (i + 1)) (xs (i + 2)) (xs (i + 3)) (xs (i + 4)) (xs (i + 5))).1 from om_O13)
    rw [e3, e4, e1, e2, Kw_self]
    exact t_clash (M := z.1) (N := z.2) (nw := nw) C hX hLn hi (by omega) (by omega) S.M hS1 hS2 T1 (fun h => absurd h hk) (G_widen (by omega) (by omega) (next (Kg K) _ _ _ _ _ C S2 R))
set_option maxHeartbeats 1000000 in
set_option maxRecDepth 20000 in
theorem q_at {K : wK} {z : wZ} {nw : Nat} {I : wI} {P : wP} {O : wO} {c n b Ln i : Nat} {xs : Nat → Int32} (hfl : (Kl K).stackTraces = false) (C : Cx K cL_law RL 7 (some .boolean) room_1 z) (hXK : XK K) (hX : SX K b Ln xs) (hLn : Ln ≤ 3072) (hi : i + 6 ≤ Ln) (hc : c + 2 ≤ 601024) (hn : n + 14 ≤ 7293034) (S : Sim z nw I P I) (R : RF z P) (next : Nx K b i c n) : G K z I P O c n 1206 [(0, .ref b), (1, .ref ((Kg K).2.2 0 0)), (2, .ref ((Kg K).2.2 12 0)), (3, .ref ((Kg K).2.2 14 0)), (4, .int (nI i))] [] := by
  have hS1 := S.A.n.2.1
  have hS2 := S.A.n.2.2
  refine g_aload_n (pc' := 1207) C dL_law_1206 rfl rfl ?_
  refine g_aload_n (pc' := 1208) C dL_law_1207 rfl rfl ?_
  refine g_iload (pc' := 1210) C dL_law_1208 rfl rfl ?_
  refine g_iconst (v := 1) (pc' := 1211) C dL_law_1210 (by decide) rfl ?_
  refine g_iadd (pc' := 1212) C dL_law_1211 rfl ?_
  refine g_sld (pc' := 1213) C hX (i + 1) (nI_add i 1) (by omega) (by omega) dL_law_1212 rfl ?_
  refine g_aload_n (pc' := 1214) C dL_law_1213 rfl rfl ?_
  refine g_iload (pc' := 1216) C dL_law_1214 rfl rfl ?_
  refine g_iconst (v := 2) (pc' := 1217) C dL_law_1216 (by decide) rfl ?_
  refine g_iadd (pc' := 1218) C dL_law_1217 rfl ?_
  refine g_sld (pc' := 1219) C hX (i + 2) (nI_add i 2) (by omega) (by omega) dL_law_1218 rfl ?_
  refine g_aload_n (pc' := 1220) C dL_law_1219 rfl rfl ?_
  refine g_iload (pc' := 1222) C dL_law_1220 rfl rfl ?_
  refine g_iconst (v := 3) (pc' := 1223) C dL_law_1222 (by decide) rfl ?_
  refine g_iadd (pc' := 1224) C dL_law_1223 rfl ?_
  refine g_sld (pc' := 1225) C hX (i + 3) (nI_add i 3) (by omega) (by omega) dL_law_1224 rfl ?_
  refine g_aload_n (pc' := 1226) C dL_law_1225 rfl rfl ?_
  refine x_callS (pc' := 1229) (mc := 1) (ms := 6) (As := [.ref ((Kg K).2.2 0 0), .int (xs (i + 1)), .int (xs (i + 2)), .int (xs (i + 3)), .ref ((Kg K).2.2 14 0)]) (post := fun sz => LW (cK14 (xs (i + 1)) (xs (i + 2)) (xs (i + 3))) (Kg K) z (gE (Kg K) z) ((caL I P (xs (i + 1)) (xs (i + 2)) (xs (i + 3)) z.2 0).toInt64) I P (I) (P)) C hXK cw_L_at (fun sz => w_at hfl S.X sz) dL_law_1226 ⟨by decide +kernel, by decide +kernel, (by decide +kernel : (parseMethodDescriptor yL_at.desc).map (fun d => d.parameters.length) = some 5)⟩ ⟨⟨Nat.le_of_ble_eq_true rfl, Nat.le_of_ble_eq_true rfl⟩, rfl, rfl⟩ rfl (Nat.le_of_ble_eq_true rfl) ⟨by show c + 1 ≤ 601024; omega, by show n + 6 ≤ 7293034; omega⟩ rfl (fun sz v' g' z' I' P' O' hA' hp => ?_)
  obtain ⟨rfl, hp⟩ := hp
  rcases hp with ⟨hk, hge, e1, e2, hO⟩ | ⟨hk, e3, e4, e1, e2⟩
  · have sJ : Sim z nw I P (I) := S.cJ (show Og I (I) from Og.rf)
    rw [e1, e2]
    have T := s_at (x := (xs (i + 1))) (y := (xs (i + 2))) (w := (xs (i + 3))) sJ
    obtain ⟨T1, T2, -⟩ := T
    obtain ⟨T3, T4⟩ := T2 hk
    have S2 := T4.cI (show Om _ (mO14 (I) z.2 (xs (i + 1)) (xs (i + 2)) (xs (i + 3))).1 from om_O14)
    obtain ⟨e3, e4⟩ := hge
    rw [e3, e4]
    rw [Kw_self]
    exact t_at (M := z.1) (N := z.2) (nw := nw) C hX hLn hi (by omega) (by omega) sJ.M sJ.A.n.2.1 hS2 T1 (fun _ => hO.trans (congrArg Int32.toInt64 T3)) (G_widen (by omega) (by omega) (next (Kg K) _ _ _ _ _ C S2 R))
  · have T := s_at (x := (xs (i + 1))) (y := (xs (i + 2))) (w := (xs (i + 3))) S
    obtain ⟨T1, -, T2⟩ := T
    have S2 := (T2 hk).cI (show Om _ (mO14 I z.2 (xs (i + 1)) (xs (i + 2)) (xs (i + 3))).1 from om_O14)
    rw [e3, e4, e1, e2, Kw_self]
    exact t_at (M := z.1) (N := z.2) (nw := nw) C hX hLn hi (by omega) (by omega) S.M hS1 hS2 T1 (fun h => absurd h hk) (G_widen (by omega) (by omega) (next (Kg K) _ _ _ _ _ C S2 R))
set_option maxHeartbeats 1000000 in
set_option maxRecDepth 20000 in
theorem q_about {K : wK} {z : wZ} {nw : Nat} {I : wI} {P : wP} {O : wO} {c n b Ln i : Nat} {xs : Nat → Int32} (hfl : (Kl K).stackTraces = false) (C : Cx K cL_law RL 7 (some .boolean) room_1 z) (hXK : XK K) (hX : SX K b Ln xs) (hLn : Ln ≤ 3072) (hi : i + 6 ≤ Ln) (hc : c + 2 ≤ 601024) (hn : n + 14 ≤ 7293034) (S : Sim z nw I P I) (R : RF z P) (next : Nx K b i c n) : G K z I P O c n 1286 [(0, .ref b), (1, .ref ((Kg K).2.2 0 0)), (2, .ref ((Kg K).2.2 12 0)), (3, .ref ((Kg K).2.2 14 0)), (4, .int (nI i))] [] := by
  have hS1 := S.A.n.2.1
  have hS2 := S.A.n.2.2
  refine g_aload_n (pc' := 1287) C dL_law_1286 rfl rfl ?_
  refine g_aload_n (pc' := 1288) C dL_law_1287 rfl rfl ?_
  refine g_iload (pc' := 1290) C dL_law_1288 rfl rfl ?_
  refine g_iconst (v := 1) (pc' := 1291) C dL_law_1290 (by decide) rfl ?_
  refine g_iadd (pc' := 1292) C dL_law_1291 rfl ?_
  refine g_sld (pc' := 1293) C hX (i + 1) (nI_add i 1) (by omega) (by omega) dL_law_1292 rfl ?_
  refine g_aload_n (pc' := 1294) C dL_law_1293 rfl rfl ?_
  refine g_iload (pc' := 1296) C dL_law_1294 rfl rfl ?_
  refine g_iconst (v := 2) (pc' := 1297) C dL_law_1296 (by decide) rfl ?_
  refine g_iadd (pc' := 1298) C dL_law_1297 rfl ?_
  refine g_sld (pc' := 1299) C hX (i + 2) (nI_add i 2) (by omega) (by omega) dL_law_1298 rfl ?_
  refine g_aload_n (pc' := 1300) C dL_law_1299 rfl rfl ?_
  refine x_callS (pc' := 1303) (mc := 1) (ms := 6) (As := [.ref ((Kg K).2.2 0 0), .int (xs (i + 1)), .int (xs (i + 2)), .ref ((Kg K).2.2 14 0)]) (post := fun sz => LW (cK15 z.1 (xs (i + 1)) (xs (i + 2))) (Kg K) z (gE (Kg K) z) ((cV15 I P (xs (i + 1)).toNatClampNeg (xs (i + 2))).toInt64) I P (I) (P)) C hXK cw_L_about (fun sz => w_about hfl S.X sz) dL_law_1300 ⟨by decide +kernel, by decide +kernel, (by decide +kernel : (parseMethodDescriptor yL_about.desc).map (fun d => d.parameters.length) = some 4)⟩ ⟨⟨Nat.le_of_ble_eq_true rfl, Nat.le_of_ble_eq_true rfl⟩, rfl, rfl⟩ rfl (Nat.le_of_ble_eq_true rfl) ⟨by show c + 1 ≤ 601024; omega, by show n + 6 ≤ 7293034; omega⟩ rfl (fun sz v' g' z' I' P' O' hA' hp => ?_)
  obtain ⟨rfl, hp⟩ := hp
  rcases hp with ⟨hk, hge, e1, e2, hO⟩ | ⟨hk, e3, e4, e1, e2⟩
  · have sJ : Sim z nw I P (I) := S.cJ (show Og I (I) from Og.rf)
    rw [e1, e2]
    have T := s_about (x := (xs (i + 1))) (y := (xs (i + 2))) sJ
    obtain ⟨T1, T2, -⟩ := T
    obtain ⟨T3, T4⟩ := T2 hk
    have S2 := T4.cI (show Om _ (mO15 (I) z.1 nw (xs (i + 1)) (xs (i + 2))).1 from om_O15)
    obtain ⟨e3, e4⟩ := hge
    rw [e3, e4]
    rw [Kw_self]
    exact t_about (M := z.1) (N := z.2) (nw := nw) C hX hLn hi (by omega) (by omega) sJ.M sJ.A.n.2.1 hS2 T1 (fun _ => hO.trans (congrArg Int32.toInt64 T3)) (G_widen (by omega) (by omega) (next (Kg K) _ _ _ _ _ C S2 R))
  · have T := s_about (x := (xs (i + 1))) (y := (xs (i + 2))) S
    obtain ⟨T1, -, T2⟩ := T
    have S2 := (T2 hk).cI (show Om _ (mO15 I z.1 nw (xs (i + 1)) (xs (i + 2))).1 from om_O15)
    rw [e3, e4, e1, e2, Kw_self]
    exact t_about (M := z.1) (N := z.2) (nw := nw) C hX hLn hi (by omega) (by omega) S.M hS1 hS2 T1 (fun h => absurd h hk) (G_widen (by omega) (by omega) (next (Kg K) _ _ _ _ _ C S2 R))
set_option maxHeartbeats 1000000 in
set_option maxRecDepth 20000 in
theorem q_hearing {K : wK} {z : wZ} {nw : Nat} {I : wI} {P : wP} {O : wO} {c n b Ln i : Nat} {xs : Nat → Int32} (hfl : (Kl K).stackTraces = false) (C : Cx K cL_law RL 7 (some .boolean) room_1 z) (hXK : XK K) (hX : SX K b Ln xs) (hLn : Ln ≤ 3072) (hi : i + 6 ≤ Ln) (hc : c + 2 ≤ 601024) (hn : n + 14 ≤ 7293034) (S : Sim z nw I P I) (R : RF z P) (next : Nx K b i c n) : G K z I P O c n 1354 [(0, .ref b), (1, .ref ((Kg K).2.2 0 0)), (2, .ref ((Kg K).2.2 12 0)), (3, .ref ((Kg K).2.2 14 0)), (4, .int (nI i))] [] := by
  have hS1 := S.A.n.2.1
  have hS2 := S.A.n.2.2
  refine g_aload_n (pc' := 1355) C dL_law_1354 rfl rfl ?_
  refine g_aload_n (pc' := 1356) C dL_law_1355 rfl rfl ?_
  refine g_iload (pc' := 1358) C dL_law_1356 rfl rfl ?_
  refine g_iconst (v := 1) (pc' := 1359) C dL_law_1358 (by decide) rfl ?_
  refine g_iadd (pc' := 1360) C dL_law_1359 rfl ?_
  refine g_sld (pc' := 1361) C hX (i + 1) (nI_add i 1) (by omega) (by omega) dL_law_1360 rfl ?_
  refine g_aload_n (pc' := 1362) C dL_law_1361 rfl rfl ?_
  refine g_iload (pc' := 1364) C dL_law_1362 rfl rfl ?_
  refine g_iconst (v := 2) (pc' := 1365) C dL_law_1364 (by decide) rfl ?_
  refine g_iadd (pc' := 1366) C dL_law_1365 rfl ?_
  refine g_sld (pc' := 1367) C hX (i + 2) (nI_add i 2) (by omega) (by omega) dL_law_1366 rfl ?_
  refine g_aload_n (pc' := 1368) C dL_law_1367 rfl rfl ?_
  refine x_callS (pc' := 1371) (mc := 1) (ms := 6) (As := [.ref ((Kg K).2.2 0 0), .int (xs (i + 1)), .int (xs (i + 2)), .ref ((Kg K).2.2 14 0)]) (post := fun sz => LW (cK15 z.2 (xs (i + 1)) (xs (i + 2))) (Kg K) z (gE (Kg K) z) ((cV16 I P (xs (i + 1)).toNatClampNeg (xs (i + 2))).toInt64) I P (I) (P)) C hXK cw_L_hearing (fun sz => w_hearing hfl S.X sz) dL_law_1368 ⟨by decide +kernel, by decide +kernel, (by decide +kernel : (parseMethodDescriptor yL_hearing.desc).map (fun d => d.parameters.length) = some 4)⟩ ⟨⟨Nat.le_of_ble_eq_true rfl, Nat.le_of_ble_eq_true rfl⟩, rfl, rfl⟩ rfl (Nat.le_of_ble_eq_true rfl) ⟨by show c + 1 ≤ 601024; omega, by show n + 6 ≤ 7293034; omega⟩ rfl (fun sz v' g' z' I' P' O' hA' hp => ?_)
  obtain ⟨rfl, hp⟩ := hp
  rcases hp with ⟨hk, hge, e1, e2, hO⟩ | ⟨hk, e3, e4, e1, e2⟩
  · have sJ : Sim z nw I P (I) := S.cJ (show Og I (I) from Og.rf)
    rw [e1, e2]
    have T := s_hearing (x := (xs (i + 1))) (y := (xs (i + 2))) sJ
    obtain ⟨T1, T2, -⟩ := T
    obtain ⟨T3, T4⟩ := T2 hk
    have S2 := T4.cI (show Om _ (mO16 (I) z.2 (xs (i + 1)) (xs (i + 2))).1 from om_O16)
    obtain ⟨e3, e4⟩ := hge
    rw [e3, e4]
    rw [Kw_self]
    exact t_hearing (M := z.1) (N := z.2) (nw := nw) C hX hLn hi (by omega) (by omega) sJ.M sJ.A.n.2.1 hS2 T1 (fun _ => hO.trans (congrArg Int32.toInt64 T3)) (G_widen (by omega) (by omega) (next (Kg K) _ _ _ _ _ C S2 R))
  · have T := s_hearing (x := (xs (i + 1))) (y := (xs (i + 2))) S
    obtain ⟨T1, -, T2⟩ := T
    have S2 := (T2 hk).cI (show Om _ (mO16 I z.2 (xs (i + 1)) (xs (i + 2))).1 from om_O16)
    rw [e3, e4, e1, e2, Kw_self]
    exact t_hearing (M := z.1) (N := z.2) (nw := nw) C hX hLn hi (by omega) (by omega) S.M hS1 hS2 T1 (fun h => absurd h hk) (G_widen (by omega) (by omega) (next (Kg K) _ _ _ _ _ C S2 R))
set_option maxHeartbeats 1000000 in
set_option maxRecDepth 20000 in
theorem q_paidBy {K : wK} {z : wZ} {nw : Nat} {I : wI} {P : wP} {O : wO} {c n b Ln i : Nat} {xs : Nat → Int32} (hfl : (Kl K).stackTraces = false) (C : Cx K cL_law RL 7 (some .boolean) room_1 z) (hXK : XK K) (hX : SX K b Ln xs) (hLn : Ln ≤ 3072) (hi : i + 6 ≤ Ln) (hc : c + 2 ≤ 601024) (hn : n + 14 ≤ 7293034) (S : Sim z nw I P I) (R : RF z P) (next : Nx K b i c n) : G K z I P O c n 1422 [(0, .ref b), (1, .ref ((Kg K).2.2 0 0)), (2, .ref ((Kg K).2.2 12 0)), (3, .ref ((Kg K).2.2 14 0)), (4, .int (nI i))] [] := by
  have hS1 := S.A.n.2.1
  have hS2 := S.A.n.2.2
  refine g_aload_n (pc' := 1423) C dL_law_1422 rfl rfl ?_
  refine g_aload_n (pc' := 1424) C dL_law_1423 rfl rfl ?_
  refine g_iload (pc' := 1426) C dL_law_1424 rfl rfl ?_
  refine g_iconst (v := 1) (pc' := 1427) C dL_law_1426 (by decide) rfl ?_
  refine g_iadd (pc' := 1428) C dL_law_1427 rfl ?_
  refine g_sld (pc' := 1429) C hX (i + 1) (nI_add i 1) (by omega) (by omega) dL_law_1428 rfl ?_
  refine g_aload_n (pc' := 1430) C dL_law_1429 rfl rfl ?_
  refine g_iload (pc' := 1432) C dL_law_1430 rfl rfl ?_
  refine g_iconst (v := 2) (pc' := 1433) C dL_law_1432 (by decide) rfl ?_
  refine g_iadd (pc' := 1434) C dL_law_1433 rfl ?_
  refine g_sld (pc' := 1435) C hX (i + 2) (nI_add i 2) (by omega) (by omega) dL_law_1434 rfl ?_
  refine g_aload_n (pc' := 1436) C dL_law_1435 rfl rfl ?_
  refine x_callS (pc' := 1439) (mc := 1) (ms := 6) (As := [.ref ((Kg K).2.2 0 0), .int (xs (i + 1)), .int (xs (i + 2)), .ref ((Kg K).2.2 14 0)]) (post := fun sz => LW (cK17 (xs (i + 1)) (xs (i + 2))) (Kg K) z (gE (Kg K) z) ((cV17 I P (xs (i + 1)) (xs (i + 2))).toInt64) I P (I) (P)) C hXK cw_L_paidBy (fun sz => w_paidBy hfl S.X sz) dL_law_1436 ⟨by decide +kernel, by decide +kernel, (by decide +kernel : (parseMethodDescriptor yL_paidBy.desc).map (fun d => d.parameters.length) = some 4)⟩ ⟨⟨Nat.le_of_ble_eq_true rfl, Nat.le_of_ble_eq_true rfl⟩, rfl, rfl⟩ rfl (Nat.le_of_ble_eq_true rfl) ⟨by show c + 1 ≤ 601024; omega, by show n + 6 ≤ 7293034; omega⟩ rfl (fun sz v' g' z' I' P' O' hA' hp => ?_)
  obtain ⟨rfl, hp⟩ := hp
  rcases hp with ⟨hk, hge, e1, e2, hO⟩ | ⟨hk, e3, e4, e1, e2⟩
  · have sJ : Sim z nw I P (I) := S.cJ (show Og I (I) from Og.rf)
    rw [e1, e2]
    have T := s_paidBy (x := (xs (i + 1))) (y := (xs (i + 2))) sJ
    obtain ⟨T1, T2, -⟩ := T
    obtain ⟨T3, T4⟩ := T2 hk
    have S2 := T4.cI (show Om _ (mO17 (I) (xs (i + 1)) (xs (i + 2))).1 from om_O17)
    obtain ⟨e3, e4⟩ := hge
    rw [e3, e4]
    rw [Kw_self]
    exact t_paidBy (M := z.1) (N := z.2) (nw := nw) C hX hLn hi (by omega) (by omega) sJ.M sJ.A.n.2.1 hS2 T1 (fun _ => hO.trans (congrArg Int32.toInt64 T3)) (G_widen (by omega) (by omega) (next (Kg K) _ _ _ _ _ C S2 R))
  · have T := s_paidBy (x := (xs (i + 1))) (y := (xs (i + 2))) S
    obtain ⟨T1, -, T2⟩ := T
    have S2 := (T2 hk).cI (show Om _ (mO17 I (xs (i + 1)) (xs (i + 2))).1 from om_O17)
    rw [e3, e4, e1, e2, Kw_self]
    exact t_paidBy (M := z.1) (N := z.2) (nw := nw) C hX hLn hi (by omega) (by omega) S.M hS1 hS2 T1 (fun h => absurd h hk) (G_widen (by omega) (by omega) (next (Kg K) _ _ _ _ _ C S2 R))
set_option maxRecDepth 20000 in
theorem q_balances {K : wK} {z : wZ} {nw : Nat} {I : wI} {P : wP} {O : wO} {c n b Ln i : Nat} {xs : Nat → Int32} (hfl : (Kl K).stackTraces = false) (C : Cx K cL_law RL 7 (some .boolean) room_1 z) (hXK : XK K) (hX : SX K b Ln xs) (hLn : Ln ≤ 3072) (hi : i + 6 ≤ Ln) (hc : c + 2 ≤ 601024) (hn : n + 14 ≤ 7293034) (S : Sim z nw I P I) (R : RF z P) (next : Nx K b i c n) : G K z I P O c n 1490 [(0, .ref b), (1, .ref ((Kg K).2.2 0 0)), (2, .ref ((Kg K).2.2 12 0)), (3, .ref ((Kg K).2.2 14 0)), (4, .int (nI i))] [] := by
  obtain ⟨e, S1⟩ := s_balances S
  have S2 := S1.cI (Om.th (v := 0))
  refine g_aload_n (pc' := 1491) C dL_law_1490 rfl rfl ?_
  refine g_callV (pc' := 1494) (k := 0) (i := 0) (As := []) C cv_L_147 (m_X3_balances S.X) dL_law_1491 rfl rfl rfl ⟨rfl, by decide +kernel, by decide +kernel, (by decide +kernel : (parseMethodDescriptor yX3_balances.desc).map (fun d => d.parameters.length) = some 0)⟩ ⟨⟨Nat.le_of_ble_eq_true rfl, Nat.le_of_ble_eq_true rfl⟩, rfl, rfl⟩ rfl (Nat.le_of_ble_eq_true rfl) ⟨by show c ≤ 601024; omega, by show n ≤ 7293034; omega⟩ rfl (fun v1 I2 P2 q => ?_)
  obtain ⟨q1, q2, q3⟩ := q
  rw [q1, q2, q3]
  show G K z I P O c n 1494 _ [.int (blL I z.1 0 0)]
  refine g_aload_n (pc' := 1495) C dL_law_1494 rfl rfl ?_
  refine g_callV (pc' := 1498) (k := 12) (i := 0) (As := []) C cv_L_150 (m_X4_balances S.M) dL_law_1495 rfl rfl rfl ⟨rfl, by decide +kernel, by decide +kernel, (by decide +kernel : (parseMethodDescriptor yX4_balances.desc).map (fun d => d.parameters.length) = some 0)⟩ ⟨⟨Nat.le_of_ble_eq_true rfl, Nat.le_of_ble_eq_true rfl⟩, rfl, rfl⟩ rfl (Nat.le_of_ble_eq_true rfl) ⟨by show c ≤ 601024; omega, by show n ≤ 7293034; omega⟩ rfl (fun v1 I2 P2 q => ?_)
  obtain ⟨q1, q2, q3⟩ := q
  rw [q1, q2, q3]
  show G K z (th I 0) P O c n 1498 _ [.int (mbL (th I 0) z.1 0 0), .int (blL I z.1 0 0)]
  refine g_icmp_eq (tgt := 1516) (pc' := 1501) C dL_law_1498 (by decide) rfl (fun _ => ?_) (fun h => absurd e h)
  exact G_widen (by omega) (by omega) (next (Kg K) _ _ _ _ _ C S2 R)
set_option maxRecDepth 20000 in
theorem q_hour {K : wK} {z : wZ} {nw : Nat} {I : wI} {P : wP} {O : wO} {c n b Ln i : Nat} {xs : Nat → Int32} (hfl : (Kl K).stackTraces = false) (C : Cx K cL_law RL 7 (some .boolean) room_1 z) (hXK : XK K) (hX : SX K b Ln xs) (hLn : Ln ≤ 3072) (hi : i + 6 ≤ Ln) (hc : c + 2 ≤ 601024) (hn : n + 14 ≤ 7293034) (S : Sim z nw I P I) (R : RF z P) (next : Nx K b i c n) : G K z I P O c n 1503 [(0, .ref b), (1, .ref ((Kg K).2.2 0 0)), (2, .ref ((Kg K).2.2 12 0)), (3, .ref ((Kg K).2.2 14 0)), (4, .int (nI i))] [] := by
  obtain ⟨e, S1⟩ := s_hour S
  have S2 := S1.cI (Om.th (v := 0))
  refine g_aload_n (pc' := 1504) C dL_law_1503 rfl rfl ?_
  refine g_callV (pc' := 1507) (k := 0) (i := 0) (As := []) C cv_L_151 (m_X3_hour) dL_law_1504 rfl rfl rfl ⟨rfl, by decide +kernel, by decide +kernel, (by decide +kernel : (parseMethodDescriptor yX3_hour.desc).map (fun d => d.parameters.length) = some 0)⟩ ⟨⟨Nat.le_of_ble_eq_true rfl, Nat.le_of_ble_eq_true rfl⟩, rfl, rfl⟩ rfl (Nat.le_of_ble_eq_true rfl) ⟨by show c ≤ 601024; omega, by show n ≤ 7293034; omega⟩ rfl (fun v1 I2 P2 q => ?_)
  obtain ⟨q1, q2, q3⟩ := q
  rw [q1, q2, q3]
  show G K z I P O c n 1507 _ [.int (I 0 0 6)]
  refine g_aload_n (pc' := 1508) C dL_law_1507 rfl rfl ?_
  refine g_callV (pc' := 1511) (k := 12) (i := 0) (As := []) C cv_L_154 (m_X4_hour) dL_law_1508 rfl rfl rfl ⟨rfl, by decide +kernel, by decide +kernel, (by decide +kernel : (parseMethodDescriptor yX4_hour.desc).map (fun d => d.parameters.length) = some 0)⟩ ⟨⟨Nat.le_of_ble_eq_true rfl, Nat.le_of_ble_eq_true rfl⟩, rfl, rfl⟩ rfl (Nat.le_of_ble_eq_true rfl) ⟨by show c ≤ 601024; omega, by show n ≤ 7293034; omega⟩ rfl (fun v1 I2 P2 q => ?_)
  obtain ⟨q1, q2, q3⟩ := q
  rw [q1, q2, q3]
  show G K z (th I 0) P O c n 1511 _ [.int (I 12 0 1), .int (I 0 0 6)]
  refine g_icmp_eq (tgt := 1516) (pc' := 1514) C dL_law_1511 (by decide) rfl (fun _ => ?_) (fun h => absurd e h)
  exact G_widen (by omega) (by omega) (next (Kg K) _ _ _ _ _ C S2 R)
def KE (K : wK) : Prop := ∀ (g' : wG) (z : wZ) (I : wI) (P : wP) (O : wO) (c n : Nat) (L : List (Nat × Value)), c ≤ 601024 → n ≤ 7293034 → G (Kw K g') z I P O c n 1523 L [.int 1]
set_option maxHeartbeats 1000000 in
set_option maxRecDepth 20000 in
theorem law_loop {K0 : wK} {b Ln : Nat} {xs : Nat → Int32} (hfl0 : (Kl K0).stackTraces = false) (hXK : XK K0) (hX : SX K0 b Ln xs) (hLn : Ln ≤ 3072) (hend : KE K0) : ∀ (t : Nat) (g : wG) (z : wZ) (nw : Nat) (I : wI) (P : wP) (O : wO) (c n i : Nat), Cx (Kw K0 g) cL_law RL 7 (some .boolean) room_1 z → Sim z nw I P I → RF z P → Ln ≤ i + 6 * t + 5 → i ≤ Ln → c + 2 * t ≤ 601024 → n + 14 * t ≤ 7293034 → G (Kw K0 g) z I P O c n 23 [(0, .ref b), (1, .ref (g.2.2 0 0)), (2, .ref (g.2.2 12 0)), (3, .ref (g.2.2 14 0)), (4, .int (nI i))] [] := by
  intro t
  induction t with
  | zero =>
    intro g z nw I P O c n i C S R h1 h2 h3 h4
    refine g_iload (pc' := 25) C dL_law_23 rfl rfl ?_
    refine g_aload_n (pc' := 26) C dL_law_25 rfl rfl ?_
    refine g_slen (pc' := 27) C (hX.up g) dL_law_26 rfl ?_
    refine g_bipush (v := 6) (pc' := 29) C dL_law_27 (by decide) rfl ?_
    refine g_isub (pc' := 30) C dL_law_29 rfl ?_
    have hlt : nI Ln - 6 < nI i := by
      rw [Int32.lt_iff_toInt_lt, show (6 : Int32) = nI 6 from rfl, pk_sub_toInt (by omega) (by omega), nI_toInt (by omega)]
      omega
    refine g_icmp_gt (tgt := 1522) (pc' := 33) C dL_law_30 (by decide) rfl (fun _ => ?_) (fun h => absurd hlt h)
    refine g_iconst (v := 1) (pc' := 1523) C dL_law_1522 (by decide) rfl ?_
    exact hend g z I P O c n _ (by omega) (by omega)
  | succ t ih =>
    intro g z nw I P O c n i C S R h1 h2 h3 h4
    have hfl : (Kl (Kw K0 g)).stackTraces = false := hfl0
    refine g_iload (pc' := 25) C dL_law_23 rfl rfl ?_
    refine g_aload_n (pc' := 26) C dL_law_25 rfl rfl ?_
    refine g_slen (pc' := 27) C (hX.up g) dL_law_26 rfl ?_
    refine g_bipush (v := 6) (pc' := 29) C dL_law_27 (by decide) rfl ?_
    refine g_isub (pc' := 30) C dL_law_29 rfl ?_
    have hlt : nI Ln - 6 < nI i ↔ Ln < i + 6 := by
      rw [Int32.lt_iff_toInt_lt, show (6 : Int32) = nI 6 from rfl, pk_sub_toInt (by omega) (by omega), nI_toInt (by omega)]
      omega
    refine g_icmp_gt (tgt := 1522) (pc' := 33) C dL_law_30 (by decide) rfl (fun _ => ?_) (fun h => ?_)
    · refine g_iconst (v := 1) (pc' := 1523) C dL_law_1522 (by decide) rfl ?_
      exact hend g z I P O c n _ (by omega) (by omega)
    have hi6 : i + 6 ≤ Ln := by
      refine Classical.byContradiction fun q => h (hlt.mpr (by omega))
    have hnext : Nx (Kw K0 g) b i c n := by
      intro g' z' nw' I' P' O' C' S' R'
      have C'' : Cx (Kw K0 g') cL_law RL 7 (some .boolean) room_1 z' := C'
      show G (Kw K0 g') z' I' P' O' (c + 2) (n + 14) 1516 _ []
      refine g_iinc (v := nI (i + 6)) (pc' := 1519) C'' dL_law_1516 rfl (nI_add i 6) rfl rfl ?_
      refine g_goto (tgt := 23) C'' dL_law_1519 (by decide) ?_
      exact ih g' z' nw' I' P' O' (c + 2) (n + 14) (i + 6) C'' S' R' (by omega) (by omega) (by omega) (by omega)
    refine g_aload_n (pc' := 34) C dL_law_33 rfl rfl ?_
    refine g_iload (pc' := 36) C dL_law_34 rfl rfl ?_
    refine g_sld (pc' := 37) C (hX.up g) i rfl (by omega) (by omega) dL_law_36 rfl ?_
    refine g_bipush (v := 31) (pc' := 39) C dL_law_37 (by decide) rfl ?_
    refine g_iand (pc' := 40) C dL_law_39 rfl ?_
    obtain ⟨j, hj, e31⟩ := pk_andE (xs i) (m := 31) 5 (by decide)
    have hj : j < 32 := hj
    by_cases h20 : 20 ≤ j
    · refine g_tabOut (tgt := 1516) C dL_law_40 (Or.inr (by rw [e31, nI_toInt (by omega)]; omega)) (by decide) ?_
      exact G_widen (by omega) (by omega) (hnext g z nw I P O C S R)
    rcases (show j = 0 ∨ j = 1 ∨ j = 2 ∨ j = 3 ∨ j = 4 ∨ j = 5 ∨ j = 6 ∨ j = 7 ∨ j = 8 ∨ j = 9 ∨ j = 10 ∨ j = 11 ∨ j = 12 ∨ j = 13 ∨ j = 14 ∨ j = 15 ∨ j = 16 ∨ j = 17 ∨ j = 18 ∨ j = 19 by omega) with rfl | rfl | rfl | rfl | rfl | rfl | rfl | rfl | rfl | rfl | rfl | rfl | rfl | rfl | rfl | rfl | rfl | rfl | rfl | rfl
    · refine g_tabIn (tgt := 136) C 0 (by rw [e31]; decide) dL_law_40 (by decide) (by decide) rfl (by decide) ?_
      exact q_interpreter hfl C (hXK.up g) (hX.up g) hLn hi6 (by omega) (by omega) S R hnext
    · refine g_tabIn (tgt := 216) C 1 (by rw [e31]; decide) dL_law_40 (by decide) (by decide) rfl (by decide) ?_
      exact q_waive hfl C (hXK.up g) (hX.up g) hLn hi6 (by omega) (by omega) S R hnext
    · refine g_tabIn (tgt := 307) C 2 (by rw [e31]; decide) dL_law_40 (by decide) (by decide) rfl (by decide) ?_
      exact q_file hfl C (hXK.up g) (hX.up g) hLn hi6 (by omega) (by omega) S R hnext
    · refine g_tabIn (tgt := 399) C 3 (by rw [e31]; decide) dL_law_40 (by decide) (by decide) rfl (by decide) ?_
      exact q_pay hfl C (hXK.up g) (hX.up g) hLn hi6 (by omega) (by omega) S R hnext
    · refine g_tabIn (tgt := 467) C 4 (by rw [e31]; decide) dL_law_40 (by decide) (by decide) rfl (by decide) ?_
      exact q_decide hfl C (hXK.up g) (hX.up g) hLn hi6 (by omega) (by omega) S R hnext
    · refine g_tabIn (tgt := 523) C 5 (by rw [e31]; decide) dL_law_40 (by decide) (by decide) rfl (by decide) ?_
      exact q_appeal hfl C (hXK.up g) (hX.up g) hLn hi6 (by omega) (by omega) S R hnext
    · refine g_tabIn (tgt := 579) C 6 (by rw [e31]; decide) dL_law_40 (by decide) (by decide) rfl (by decide) ?_
      exact q_settle hfl C (hXK.up g) (hX.up g) hLn hi6 (by omega) (by omega) S R hnext
    · refine g_tabIn (tgt := 663) C 7 (by rw [e31]; decide) dL_law_40 (by decide) (by decide) rfl (by decide) ?_
      exact q_close hfl C (hXK.up g) (hX.up g) hLn hi6 (by omega) (by omega) S R hnext
    · refine g_tabIn (tgt := 719) C 8 (by rw [e31]; decide) dL_law_40 (by decide) (by decide) rfl (by decide) ?_
      exact q_plan hfl C (hXK.up g) (hX.up g) hLn hi6 (by omega) (by omega) S R hnext
    · refine g_tabIn (tgt := 823) C 9 (by rw [e31]; decide) dL_law_40 (by decide) (by decide) rfl (by decide) ?_
      exact q_move hfl C (hXK.up g) (hX.up g) hLn hi6 (by omega) (by omega) S R hnext
    · refine g_tabIn (tgt := 915) C 10 (by rw [e31]; decide) dL_law_40 (by decide) (by decide) rfl (by decide) ?_
      exact q_drop hfl C (hXK.up g) (hX.up g) hLn hi6 (by omega) (by omega) S R hnext
    · refine g_tabIn (tgt := 971) C 11 (by rw [e31]; decide) dL_law_40 (by decide) (by decide) rfl (by decide) ?_
      exact q_notice hfl C (hXK.up g) (hX.up g) hLn hi6 (by omega) (by omega) S R hnext
    · refine g_tabIn (tgt := 1046) C 12 (by rw [e31]; decide) dL_law_40 (by decide) (by decide) rfl (by decide) ?_
      exact q_pass hfl C (hXK.up g) (hX.up g) hLn hi6 (by omega) (by omega) S R hnext
    · refine g_tabIn (tgt := 1102) C 13 (by rw [e31]; decide) dL_law_40 (by decide) (by decide) rfl (by decide) ?_
      exact q_clash hfl C (hXK.up g) (hX.up g) hLn hi6 (by omega) (by omega) S R hnext
    · refine g_tabIn (tgt := 1206) C 14 (by rw [e31]; decide) dL_law_40 (by decide) (by decide) rfl (by decide) ?_
      exact q_at hfl C (hXK.up g) (hX.up g) hLn hi6 (by omega) (by omega) S R hnext
    · refine g_tabIn (tgt := 1286) C 15 (by rw [e31]; decide) dL_law_40 (by decide) (by decide) rfl (by decide) ?_
      exact q_about hfl C (hXK.up g) (hX.up g) hLn hi6 (by omega) (by omega) S R hnext
    · refine g_tabIn (tgt := 1354) C 16 (by rw [e31]; decide) dL_law_40 (by decide) (by decide) rfl (by decide) ?_
      exact q_hearing hfl C (hXK.up g) (hX.up g) hLn hi6 (by omega) (by omega) S R hnext
    · refine g_tabIn (tgt := 1422) C 17 (by rw [e31]; decide) dL_law_40 (by decide) (by decide) rfl (by decide) ?_
      exact q_paidBy hfl C (hXK.up g) (hX.up g) hLn hi6 (by omega) (by omega) S R hnext
    · refine g_tabIn (tgt := 1490) C 18 (by rw [e31]; decide) dL_law_40 (by decide) (by decide) rfl (by decide) ?_
      exact q_balances hfl C (hXK.up g) (hX.up g) hLn hi6 (by omega) (by omega) S R hnext
    · refine g_tabIn (tgt := 1503) C 19 (by rw [e31]; decide) dL_law_40 (by decide) (by decide) rfl (by decide) ?_
      exact q_hour hfl C (hXK.up g) (hX.up g) hLn hi6 (by omega) (by omega) S R hnext
end WCases
