section WLaw
theorem lg_self (x : Int64) : lg_cmp x x = 0 := by
  unfold lg_cmp
  rw [if_neg (fun h => absurd (Int64.lt_iff_toInt_lt.mp h) (Int.lt_irrefl _)), if_pos rfl]
set_option maxRecDepth 20000 in
theorem t_interpreter {K : wK} {z : wZ} {I : wI} {P : wP} {O : wO} {c n b Ln i M N nw : Nat} {xs : Nat → Int32} {k : Int32} (C : Cx K cL_law RL 7 (some .boolean) room_1 z) (hX : SX K b Ln xs) (hLn : Ln ≤ 3072) (hi : i + 6 ≤ Ln) (hc : c ≤ 601024) (hn : n ≤ 7293034) (X : MI M N I) (hnow : I 12 0 1 = nI nw) (hnw : nw ≤ 1000) (hth : (mO0 I (xs (i + 1)) (xs (i + 2)) (xs (i + 3))).1 12 0 0 = k) (hr : k = 0 → O 0 = (mO0 I (xs (i + 1)) (xs (i + 2)) (xs (i + 3))).2.toInt64) (next : G K z (mO0 I (xs (i + 1)) (xs (i + 2)) (xs (i + 3))).1 P O c n 1516 [(0, .ref b), (1, .ref ((Kg K).2.2 0 0)), (2, .ref ((Kg K).2.2 12 0)), (3, .ref ((Kg K).2.2 14 0)), (4, .int (nI i))] []) : G K z I P O c n 159 [(0, .ref b), (1, .ref ((Kg K).2.2 0 0)), (2, .ref ((Kg K).2.2 12 0)), (3, .ref ((Kg K).2.2 14 0)), (4, .int (nI i))] [.int k] := by
  refine g_istore (pc' := 161) C dL_law_159 rfl rfl ?_
  refine g_aload_n (pc' := 162) C dL_law_161 rfl rfl ?_
  refine g_aload_n (pc' := 163) C dL_law_162 rfl rfl ?_
  refine g_iload (pc' := 165) C dL_law_163 rfl rfl ?_
  refine g_iconst (v := 1) (pc' := 166) C dL_law_165 (by decide) rfl ?_
  refine g_iadd (pc' := 167) C dL_law_166 rfl ?_
  refine g_sld (pc' := 168) C hX (i + 1) (nI_add i 1) (by omega) (by omega) dL_law_167 rfl ?_
  refine g_aload_n (pc' := 169) C dL_law_168 rfl rfl ?_
  refine g_iload (pc' := 171) C dL_law_169 rfl rfl ?_
  refine g_iconst (v := 2) (pc' := 172) C dL_law_171 (by decide) rfl ?_
  refine g_iadd (pc' := 173) C dL_law_172 rfl ?_
  refine g_sld (pc' := 174) C hX (i + 2) (nI_add i 2) (by omega) (by omega) dL_law_173 rfl ?_
  refine g_aload_n (pc' := 175) C dL_law_174 rfl rfl ?_
  refine g_iload (pc' := 177) C dL_law_175 rfl rfl ?_
  refine g_iconst (v := 3) (pc' := 178) C dL_law_177 (by decide) rfl ?_
  refine g_iadd (pc' := 179) C dL_law_178 rfl ?_
  refine g_sld (pc' := 180) C hX (i + 3) (nI_add i 3) (by omega) (by omega) dL_law_179 rfl ?_
  refine g_callV (pc' := 183) (k := 12) (i := 0) (As := [.int (xs (i + 1)), .int (xs (i + 2)), .int (xs (i + 3))]) C cv_L_86 (m_X4_interpreter) dL_law_180 rfl rfl rfl ⟨rfl, by decide +kernel, by decide +kernel, (by decide +kernel : (parseMethodDescriptor yX4_interpreter.desc).map (fun d => d.parameters.length) = some 3)⟩ ⟨⟨Nat.le_of_ble_eq_true rfl, Nat.le_of_ble_eq_true rfl⟩, rfl, rfl⟩ rfl (Nat.le_of_ble_eq_true rfl) ⟨by show c ≤ 601024; omega, by show n ≤ 7293034; omega⟩ rfl (fun v1 I2 P2 q => ?_)
  obtain ⟨q1, q2, q3⟩ := q
  rw [q1, q2, q3]
  show G K z (mO0 I (xs (i + 1)) (xs (i + 2)) (xs (i + 3))).1 P O c n 183 _ [.int (mO0 I (xs (i + 1)) (xs (i + 2)) (xs (i + 3))).2]
  refine g_istore (pc' := 185) C dL_law_183 rfl rfl ?_
  refine g_aload_n (pc' := 186) C dL_law_185 rfl rfl ?_
  refine g_callV (pc' := 189) (k := 12) (i := 0) (As := []) C cv_L_87 (m_X4_thrown) dL_law_186 rfl rfl rfl ⟨rfl, by decide +kernel, by decide +kernel, (by decide +kernel : (parseMethodDescriptor yX4_thrown.desc).map (fun d => d.parameters.length) = some 0)⟩ ⟨⟨Nat.le_of_ble_eq_true rfl, Nat.le_of_ble_eq_true rfl⟩, rfl, rfl⟩ rfl (Nat.le_of_ble_eq_true rfl) ⟨by show c ≤ 601024; omega, by show n ≤ 7293034; omega⟩ rfl (fun v1 I2 P2 q => ?_)
  obtain ⟨q1, q2, q3⟩ := q
  rw [q1, q2, q3]
  show G K z (mO0 I (xs (i + 1)) (xs (i + 2)) (xs (i + 3))).1 P O c n 189 _ [.int ((mO0 I (xs (i + 1)) (xs (i + 2)) (xs (i + 3))).1 12 0 0)]
  refine g_iload (pc' := 191) C dL_law_189 rfl rfl ?_
  refine g_icmp_eq (tgt := 196) (pc' := 194) C dL_law_191 (by decide) rfl (fun _ => ?_) (fun h => absurd hth h)
  refine g_iload (pc' := 198) C dL_law_196 rfl rfl ?_
  refine g_if_ne (tgt := 213) (pc' := 201) C dL_law_198 (by decide) rfl (fun _ => ?_) (fun hk => ?_)
  · refine g_goto (tgt := 1516) C dL_law_213 (by decide) ?_
    exact G_pick [0, 1, 2, 3, 4] rfl next
  · refine g_aload_n (pc' := 202) C dL_law_201 rfl rfl ?_
    refine g_iconst (v := 0) (pc' := 203) C dL_law_202 (by decide) rfl ?_
    refine g_lald (pc' := 204) C dL_law_203 rfl ?_
    refine g_iload (pc' := 206) C dL_law_204 rfl rfl ?_
    refine g_i2l (pc' := 207) C dL_law_206 rfl ?_
    refine g_lcmp (pc' := 208) C dL_law_207 rfl ?_
    refine g_if_eq (tgt := 213) (pc' := 211) C dL_law_208 (by decide) rfl (fun _ => ?_) (fun h => absurd (by rw [hr hk]; exact lg_self _) h)
    refine g_goto (tgt := 1516) C dL_law_213 (by decide) ?_
    exact G_pick [0, 1, 2, 3, 4] rfl next
set_option maxRecDepth 20000 in
theorem t_waive0 {K : wK} {z : wZ} {I : wI} {P : wP} {O : wO} {c n b Ln i M N nw : Nat} {xs : Nat → Int32} {k : Int32} (C : Cx K cL_law RL 7 (some .boolean) room_1 z) (hX : SX K b Ln xs) (hLn : Ln ≤ 3072) (hi : i + 6 ≤ Ln) (hc : c ≤ 601024) (hn : n ≤ 7293034) (X : MI M N I) (hnow : I 12 0 1 = nI nw) (hnw : nw ≤ 1000) (hz : xs (i + 2) = 0) (h01 : ∀ j, j < 6 → I 13 4 j = 0 ∨ I 13 4 j = 1) (hth : (mO1 I (xs (i + 1)) (0 : Int32)).1 12 0 0 = k) (hr : k = 0 → O 0 = if (mO1 I (xs (i + 1)) (0 : Int32)).2 = 0 then 0 else 1) (next : G K z (mO1 I (xs (i + 1)) (0 : Int32)).1 P O c n 1516 [(0, .ref b), (1, .ref ((Kg K).2.2 0 0)), (2, .ref ((Kg K).2.2 12 0)), (3, .ref ((Kg K).2.2 14 0)), (4, .int (nI i))] []) : G K z I P O c n 241 [(0, .ref b), (1, .ref ((Kg K).2.2 0 0)), (2, .ref ((Kg K).2.2 12 0)), (3, .ref ((Kg K).2.2 14 0)), (4, .int (nI i))] [.int k] := by
  refine g_istore (pc' := 243) C dL_law_241 rfl rfl ?_
  refine g_aload_n (pc' := 244) C dL_law_243 rfl rfl ?_
  refine g_aload_n (pc' := 245) C dL_law_244 rfl rfl ?_
  refine g_iload (pc' := 247) C dL_law_245 rfl rfl ?_
  refine g_iconst (v := 1) (pc' := 248) C dL_law_247 (by decide) rfl ?_
  refine g_iadd (pc' := 249) C dL_law_248 rfl ?_
  refine g_sld (pc' := 250) C hX (i + 1) (nI_add i 1) (by omega) (by omega) dL_law_249 rfl ?_
  refine g_aload_n (pc' := 251) C dL_law_250 rfl rfl ?_
  refine g_iload (pc' := 253) C dL_law_251 rfl rfl ?_
  refine g_iconst (v := 2) (pc' := 254) C dL_law_253 (by decide) rfl ?_
  refine g_iadd (pc' := 255) C dL_law_254 rfl ?_
  refine g_sld (pc' := 256) C hX (i + 2) (nI_add i 2) (by omega) (by omega) dL_law_255 rfl ?_
  refine g_if_eq (tgt := 263) (pc' := 259) C dL_law_256 (by decide) rfl (fun _ => ?_) (fun h => absurd hz h)
  refine g_iconst (v := 0) (pc' := 264) C dL_law_263 (by decide) rfl ?_
  refine g_callV (pc' := 267) (k := 12) (i := 0) (As := [.int (xs (i + 1)), .int (0 : Int32)]) C cv_L_94 (m_X4_waive rfl h01) dL_law_264 rfl rfl rfl ⟨rfl, by decide +kernel, by decide +kernel, (by decide +kernel : (parseMethodDescriptor yX4_waive.desc).map (fun d => d.parameters.length) = some 2)⟩ ⟨⟨Nat.le_of_ble_eq_true rfl, Nat.le_of_ble_eq_true rfl⟩, rfl, rfl⟩ rfl (Nat.le_of_ble_eq_true rfl) ⟨by show c ≤ 601024; omega, by show n ≤ 7293034; omega⟩ rfl (fun v1 I2 P2 q => ?_)
  obtain ⟨q1, q2, q3⟩ := q
  rw [q1, q2, q3]
  show G K z (mO1 I (xs (i + 1)) (0 : Int32)).1 P O c n 267 _ [.int (mO1 I (xs (i + 1)) (0 : Int32)).2]
  refine g_istore (pc' := 269) C dL_law_267 rfl rfl ?_
  refine g_aload_n (pc' := 270) C dL_law_269 rfl rfl ?_
  refine g_callV (pc' := 273) (k := 12) (i := 0) (As := []) C cv_L_87 (m_X4_thrown) dL_law_270 rfl rfl rfl ⟨rfl, by decide +kernel, by decide +kernel, (by decide +kernel : (parseMethodDescriptor yX4_thrown.desc).map (fun d => d.parameters.length) = some 0)⟩ ⟨⟨Nat.le_of_ble_eq_true rfl, Nat.le_of_ble_eq_true rfl⟩, rfl, rfl⟩ rfl (Nat.le_of_ble_eq_true rfl) ⟨by show c ≤ 601024; omega, by show n ≤ 7293034; omega⟩ rfl (fun v1 I2 P2 q => ?_)
  obtain ⟨q1, q2, q3⟩ := q
  rw [q1, q2, q3]
  show G K z (mO1 I (xs (i + 1)) (0 : Int32)).1 P O c n 273 _ [.int ((mO1 I (xs (i + 1)) (0 : Int32)).1 12 0 0)]
  refine g_iload (pc' := 275) C dL_law_273 rfl rfl ?_
  refine g_icmp_eq (tgt := 280) (pc' := 278) C dL_law_275 (by decide) rfl (fun _ => ?_) (fun h => absurd hth h)
  refine g_iload (pc' := 282) C dL_law_280 rfl rfl ?_
  refine g_if_ne (tgt := 304) (pc' := 285) C dL_law_282 (by decide) rfl (fun _ => ?_) (fun hk => ?_)
  · refine g_goto (tgt := 1516) C dL_law_304 (by decide) ?_
    exact G_pick [0, 1, 2, 3, 4] rfl next
  · refine g_aload_n (pc' := 286) C dL_law_285 rfl rfl ?_
    refine g_iconst (v := 0) (pc' := 287) C dL_law_286 (by decide) rfl ?_
    refine g_lald (pc' := 288) C dL_law_287 rfl ?_
    refine g_iload (pc' := 290) C dL_law_288 rfl rfl ?_
    refine g_if_eq (tgt := 297) (pc' := 293) C dL_law_290 (by decide) rfl (fun hb => ?_) (fun hb => ?_)
    · refine g_lconst (v := 0) (pc' := 298) C dL_law_297 (by decide) rfl ?_
      refine g_lcmp (pc' := 299) C dL_law_298 rfl ?_
      refine g_if_eq (tgt := 304) (pc' := 302) C dL_law_299 (by decide) rfl (fun _ => ?_) (fun h => absurd (by rw [hr hk, if_pos hb]; exact lg_self _) h)
      refine g_goto (tgt := 1516) C dL_law_304 (by decide) ?_
      exact G_pick [0, 1, 2, 3, 4] rfl next
    · refine g_lconst (v := 1) (pc' := 294) C dL_law_293 (by decide) rfl ?_
      refine g_goto (tgt := 298) C dL_law_294 (by decide) ?_
      refine g_lcmp (pc' := 299) C dL_law_298 rfl ?_
      refine g_if_eq (tgt := 304) (pc' := 302) C dL_law_299 (by decide) rfl (fun _ => ?_) (fun h => absurd (by rw [hr hk, if_neg hb]; exact lg_self _) h)
      refine g_goto (tgt := 1516) C dL_law_304 (by decide) ?_
      exact G_pick [0, 1, 2, 3, 4] rfl next
set_option maxRecDepth 20000 in
theorem t_waive1 {K : wK} {z : wZ} {I : wI} {P : wP} {O : wO} {c n b Ln i M N nw : Nat} {xs : Nat → Int32} {k : Int32} (C : Cx K cL_law RL 7 (some .boolean) room_1 z) (hX : SX K b Ln xs) (hLn : Ln ≤ 3072) (hi : i + 6 ≤ Ln) (hc : c ≤ 601024) (hn : n ≤ 7293034) (X : MI M N I) (hnow : I 12 0 1 = nI nw) (hnw : nw ≤ 1000) (hz : ¬ xs (i + 2) = 0) (h01 : ∀ j, j < 6 → I 13 4 j = 0 ∨ I 13 4 j = 1) (hth : (mO1 I (xs (i + 1)) (1 : Int32)).1 12 0 0 = k) (hr : k = 0 → O 0 = if (mO1 I (xs (i + 1)) (1 : Int32)).2 = 0 then 0 else 1) (next : G K z (mO1 I (xs (i + 1)) (1 : Int32)).1 P O c n 1516 [(0, .ref b), (1, .ref ((Kg K).2.2 0 0)), (2, .ref ((Kg K).2.2 12 0)), (3, .ref ((Kg K).2.2 14 0)), (4, .int (nI i))] []) : G K z I P O c n 241 [(0, .ref b), (1, .ref ((Kg K).2.2 0 0)), (2, .ref ((Kg K).2.2 12 0)), (3, .ref ((Kg K).2.2 14 0)), (4, .int (nI i))] [.int k] := by
  refine g_istore (pc' := 243) C dL_law_241 rfl rfl ?_
  refine g_aload_n (pc' := 244) C dL_law_243 rfl rfl ?_
  refine g_aload_n (pc' := 245) C dL_law_244 rfl rfl ?_
  refine g_iload (pc' := 247) C dL_law_245 rfl rfl ?_
  refine g_iconst (v := 1) (pc' := 248) C dL_law_247 (by decide) rfl ?_
  refine g_iadd (pc' := 249) C dL_law_248 rfl ?_
  refine g_sld (pc' := 250) C hX (i + 1) (nI_add i 1) (by omega) (by omega) dL_law_249 rfl ?_
  refine g_aload_n (pc' := 251) C dL_law_250 rfl rfl ?_
  refine g_iload (pc' := 253) C dL_law_251 rfl rfl ?_
  refine g_iconst (v := 2) (pc' := 254) C dL_law_253 (by decide) rfl ?_
  refine g_iadd (pc' := 255) C dL_law_254 rfl ?_
  refine g_sld (pc' := 256) C hX (i + 2) (nI_add i 2) (by omega) (by omega) dL_law_255 rfl ?_
  refine g_if_eq (tgt := 263) (pc' := 259) C dL_law_256 (by decide) rfl (fun h => absurd h hz) (fun _ => ?_)
  refine g_iconst (v := 1) (pc' := 260) C dL_law_259 (by decide) rfl ?_
  refine g_goto (tgt := 264) C dL_law_260 (by decide) ?_
  refine g_callV (pc' := 267) (k := 12) (i := 0) (As := [.int (xs (i + 1)), .int (1 : Int32)]) C cv_L_94 (m_X4_waive rfl h01) dL_law_264 rfl rfl rfl ⟨rfl, by decide +kernel, by decide +kernel, (by decide +kernel : (parseMethodDescriptor yX4_waive.desc).map (fun d => d.parameters.length) = some 2)⟩ ⟨⟨Nat.le_of_ble_eq_true rfl, Nat.le_of_ble_eq_true rfl⟩, rfl, rfl⟩ rfl (Nat.le_of_ble_eq_true rfl) ⟨by show c ≤ 601024; omega, by show n ≤ 7293034; omega⟩ rfl (fun v1 I2 P2 q => ?_)
  obtain ⟨q1, q2, q3⟩ := q
  rw [q1, q2, q3]
  show G K z (mO1 I (xs (i + 1)) (1 : Int32)).1 P O c n 267 _ [.int (mO1 I (xs (i + 1)) (1 : Int32)).2]
  refine g_istore (pc' := 269) C dL_law_267 rfl rfl ?_
  refine g_aload_n (pc' := 270) C dL_law_269 rfl rfl ?_
  refine g_callV (pc' := 273) (k := 12) (i := 0) (As := []) C cv_L_87 (m_X4_thrown) dL_law_270 rfl rfl rfl ⟨rfl, by decide +kernel, by decide +kernel, (by decide +kernel : (parseMethodDescriptor yX4_thrown.desc).map (fun d => d.parameters.length) = some 0)⟩ ⟨⟨Nat.le_of_ble_eq_true rfl, Nat.le_of_ble_eq_true rfl⟩, rfl, rfl⟩ rfl (Nat.le_of_ble_eq_true rfl) ⟨by show c ≤ 601024; omega, by show n ≤ 7293034; omega⟩ rfl (fun v1 I2 P2 q => ?_)
  obtain ⟨q1, q2, q3⟩ := q
  rw [q1, q2, q3]
  show G K z (mO1 I (xs (i + 1)) (1 : Int32)).1 P O c n 273 _ [.int ((mO1 I (xs (i + 1)) (1 : Int32)).1 12 0 0)]
  refine g_iload (pc' := 275) C dL_law_273 rfl rfl ?_
  refine g_icmp_eq (tgt := 280) (pc' := 278) C dL_law_275 (by decide) rfl (fun _ => ?_) (fun h => absurd hth h)
  refine g_iload (pc' := 282) C dL_law_280 rfl rfl ?_
  refine g_if_ne (tgt := 304) (pc' := 285) C dL_law_282 (by decide) rfl (fun _ => ?_) (fun hk => ?_)
  · refine g_goto (tgt := 1516) C dL_law_304 (by decide) ?_
    exact G_pick [0, 1, 2, 3, 4] rfl next
  · refine g_aload_n (pc' := 286) C dL_law_285 rfl rfl ?_
    refine g_iconst (v := 0) (pc' := 287) C dL_law_286 (by decide) rfl ?_
    refine g_lald (pc' := 288) C dL_law_287 rfl ?_
    refine g_iload (pc' := 290) C dL_law_288 rfl rfl ?_
    refine g_if_eq (tgt := 297) (pc' := 293) C dL_law_290 (by decide) rfl (fun hb => ?_) (fun hb => ?_)
    · refine g_lconst (v := 0) (pc' := 298) C dL_law_297 (by decide) rfl ?_
      refine g_lcmp (pc' := 299) C dL_law_298 rfl ?_
      refine g_if_eq (tgt := 304) (pc' := 302) C dL_law_299 (by decide) rfl (fun _ => ?_) (fun h => absurd (by rw [hr hk, if_pos hb]; exact lg_self _) h)
      refine g_goto (tgt := 1516) C dL_law_304 (by decide) ?_
      exact G_pick [0, 1, 2, 3, 4] rfl next
    · refine g_lconst (v := 1) (pc' := 294) C dL_law_293 (by decide) rfl ?_
      refine g_goto (tgt := 298) C dL_law_294 (by decide) ?_
      refine g_lcmp (pc' := 299) C dL_law_298 rfl ?_
      refine g_if_eq (tgt := 304) (pc' := 302) C dL_law_299 (by decide) rfl (fun _ => ?_) (fun h => absurd (by rw [hr hk, if_neg hb]; exact lg_self _) h)
      refine g_goto (tgt := 1516) C dL_law_304 (by decide) ?_
      exact G_pick [0, 1, 2, 3, 4] rfl next
set_option maxRecDepth 20000 in
theorem t_file {K : wK} {z : wZ} {I : wI} {P : wP} {O : wO} {c n b Ln i M N nw : Nat} {xs : Nat → Int32} {k : Int32} (C : Cx K cL_law RL 7 (some .boolean) room_1 z) (hX : SX K b Ln xs) (hLn : Ln ≤ 3072) (hi : i + 6 ≤ Ln) (hc : c ≤ 601024) (hn : n ≤ 7293034) (X : MI M N I) (hnow : I 12 0 1 = nI nw) (hnw : nw ≤ 1000) (hth : (mO2 I M (xs (i + 1)) (xs (i + 2)) (xs (i + 3)) (xs (i + 4))).1 12 0 0 = k) (hr : k = 0 → O 0 = (mO2 I M (xs (i + 1)) (xs (i + 2)) (xs (i + 3)) (xs (i + 4))).2.toInt64) (next : G K z (mO2 I M (xs (i + 1)) (xs (i + 2)) (xs (i + 3)) (xs (i + 4))).1 P O c n 1516 [(0, .ref b), (1, .ref ((Kg K).2.2 0 0)), (2, .ref ((Kg K).2.2 12 0)), (3, .ref ((Kg K).2.2 14 0)), (4, .int (nI i))] []) : G K z I P O c n 336 [(0, .ref b), (1, .ref ((Kg K).2.2 0 0)), (2, .ref ((Kg K).2.2 12 0)), (3, .ref ((Kg K).2.2 14 0)), (4, .int (nI i))] [.int k] := by
  refine g_istore (pc' := 338) C dL_law_336 rfl rfl ?_
  refine g_aload_n (pc' := 339) C dL_law_338 rfl rfl ?_
  refine g_aload_n (pc' := 340) C dL_law_339 rfl rfl ?_
  refine g_iload (pc' := 342) C dL_law_340 rfl rfl ?_
  refine g_iconst (v := 1) (pc' := 343) C dL_law_342 (by decide) rfl ?_
  refine g_iadd (pc' := 344) C dL_law_343 rfl ?_
  refine g_sld (pc' := 345) C hX (i + 1) (nI_add i 1) (by omega) (by omega) dL_law_344 rfl ?_
  refine g_aload_n (pc' := 346) C dL_law_345 rfl rfl ?_
  refine g_iload (pc' := 348) C dL_law_346 rfl rfl ?_
  refine g_iconst (v := 2) (pc' := 349) C dL_law_348 (by decide) rfl ?_
  refine g_iadd (pc' := 350) C dL_law_349 rfl ?_
  refine g_sld (pc' := 351) C hX (i + 2) (nI_add i 2) (by omega) (by omega) dL_law_350 rfl ?_
  refine g_aload_n (pc' := 352) C dL_law_351 rfl rfl ?_
  refine g_iload (pc' := 354) C dL_law_352 rfl rfl ?_
  refine g_iconst (v := 3) (pc' := 355) C dL_law_354 (by decide) rfl ?_
  refine g_iadd (pc' := 356) C dL_law_355 rfl ?_
  refine g_sld (pc' := 357) C hX (i + 3) (nI_add i 3) (by omega) (by omega) dL_law_356 rfl ?_
  refine g_aload_n (pc' := 358) C dL_law_357 rfl rfl ?_
  refine g_iload (pc' := 360) C dL_law_358 rfl rfl ?_
  refine g_iconst (v := 4) (pc' := 361) C dL_law_360 (by decide) rfl ?_
  refine g_iadd (pc' := 362) C dL_law_361 rfl ?_
  refine g_sld (pc' := 363) C hX (i + 4) (nI_add i 4) (by omega) (by omega) dL_law_362 rfl ?_
  refine g_callV (pc' := 366) (k := 12) (i := 0) (As := [.int (xs (i + 1)), .int (xs (i + 2)), .int (xs (i + 3)), .int (xs (i + 4))]) C cv_L_98 (m_X4_file X) dL_law_363 rfl rfl rfl ⟨rfl, by decide +kernel, by decide +kernel, (by decide +kernel : (parseMethodDescriptor yX4_file.desc).map (fun d => d.parameters.length) = some 4)⟩ ⟨⟨Nat.le_of_ble_eq_true rfl, Nat.le_of_ble_eq_true rfl⟩, rfl, rfl⟩ rfl (Nat.le_of_ble_eq_true rfl) ⟨by show c ≤ 601024; omega, by show n ≤ 7293034; omega⟩ rfl (fun v1 I2 P2 q => ?_)
  obtain ⟨q1, q2, q3⟩ := q
  rw [q1, q2, q3]
  show G K z (mO2 I M (xs (i + 1)) (xs (i + 2)) (xs (i + 3)) (xs (i + 4))).1 P O c n 366 _ [.int (mO2 I M (xs (i + 1)) (xs (i + 2)) (xs (i + 3)) (xs (i + 4))).2]
  refine g_istore (pc' := 368) C dL_law_366 rfl rfl ?_
  refine g_aload_n (pc' := 369) C dL_law_368 rfl rfl ?_
  refine g_callV (pc' := 372) (k := 12) (i := 0) (As := []) C cv_L_87 (m_X4_thrown) dL_law_369 rfl rfl rfl ⟨rfl, by decide +kernel, by decide +kernel, (by decide +kernel : (parseMethodDescriptor yX4_thrown.desc).map (fun d => d.parameters.length) = some 0)⟩ ⟨⟨Nat.le_of_ble_eq_true rfl, Nat.le_of_ble_eq_true rfl⟩, rfl, rfl⟩ rfl (Nat.le_of_ble_eq_true rfl) ⟨by show c ≤ 601024; omega, by show n ≤ 7293034; omega⟩ rfl (fun v1 I2 P2 q => ?_)
  obtain ⟨q1, q2, q3⟩ := q
  rw [q1, q2, q3]
  show G K z (mO2 I M (xs (i + 1)) (xs (i + 2)) (xs (i + 3)) (xs (i + 4))).1 P O c n 372 _ [.int ((mO2 I M (xs (i + 1)) (xs (i + 2)) (xs (i + 3)) (xs (i + 4))).1 12 0 0)]
  refine g_iload (pc' := 374) C dL_law_372 rfl rfl ?_
  refine g_icmp_eq (tgt := 379) (pc' := 377) C dL_law_374 (by decide) rfl (fun _ => ?_) (fun h => absurd hth h)
  refine g_iload (pc' := 381) C dL_law_379 rfl rfl ?_
  refine g_if_ne (tgt := 396) (pc' := 384) C dL_law_381 (by decide) rfl (fun _ => ?_) (fun hk => ?_)
  · refine g_goto (tgt := 1516) C dL_law_396 (by decide) ?_
    exact G_pick [0, 1, 2, 3, 4] rfl next
  · refine g_aload_n (pc' := 385) C dL_law_384 rfl rfl ?_
    refine g_iconst (v := 0) (pc' := 386) C dL_law_385 (by decide) rfl ?_
    refine g_lald (pc' := 387) C dL_law_386 rfl ?_
    refine g_iload (pc' := 389) C dL_law_387 rfl rfl ?_
    refine g_i2l (pc' := 390) C dL_law_389 rfl ?_
    refine g_lcmp (pc' := 391) C dL_law_390 rfl ?_
    refine g_if_eq (tgt := 396) (pc' := 394) C dL_law_391 (by decide) rfl (fun _ => ?_) (fun h => absurd (by rw [hr hk]; exact lg_self _) h)
    refine g_goto (tgt := 1516) C dL_law_396 (by decide) ?_
    exact G_pick [0, 1, 2, 3, 4] rfl next
set_option maxRecDepth 20000 in
theorem t_pay {K : wK} {z : wZ} {I : wI} {P : wP} {O : wO} {c n b Ln i M N nw : Nat} {xs : Nat → Int32} {k : Int32} (C : Cx K cL_law RL 7 (some .boolean) room_1 z) (hX : SX K b Ln xs) (hLn : Ln ≤ 3072) (hi : i + 6 ≤ Ln) (hc : c ≤ 601024) (hn : n ≤ 7293034) (X : MI M N I) (hnow : I 12 0 1 = nI nw) (hnw : nw ≤ 1000) (hth : (mO3 I M (xs (i + 1)) (xs (i + 2))).1 12 0 0 = k) (hr : k = 0 → O 0 = (mO3 I M (xs (i + 1)) (xs (i + 2))).2.toInt64) (next : G K z (mO3 I M (xs (i + 1)) (xs (i + 2))).1 P O c n 1516 [(0, .ref b), (1, .ref ((Kg K).2.2 0 0)), (2, .ref ((Kg K).2.2 12 0)), (3, .ref ((Kg K).2.2 14 0)), (4, .int (nI i))] []) : G K z I P O c n 416 [(0, .ref b), (1, .ref ((Kg K).2.2 0 0)), (2, .ref ((Kg K).2.2 12 0)), (3, .ref ((Kg K).2.2 14 0)), (4, .int (nI i))] [.int k] := by
  refine g_istore (pc' := 418) C dL_law_416 rfl rfl ?_
  refine g_aload_n (pc' := 419) C dL_law_418 rfl rfl ?_
  refine g_aload_n (pc' := 420) C dL_law_419 rfl rfl ?_
  refine g_iload (pc' := 422) C dL_law_420 rfl rfl ?_
  refine g_iconst (v := 1) (pc' := 423) C dL_law_422 (by decide) rfl ?_
  refine g_iadd (pc' := 424) C dL_law_423 rfl ?_
  refine g_sld (pc' := 425) C hX (i + 1) (nI_add i 1) (by omega) (by omega) dL_law_424 rfl ?_
  refine g_aload_n (pc' := 426) C dL_law_425 rfl rfl ?_
  refine g_iload (pc' := 428) C dL_law_426 rfl rfl ?_
  refine g_iconst (v := 2) (pc' := 429) C dL_law_428 (by decide) rfl ?_
  refine g_iadd (pc' := 430) C dL_law_429 rfl ?_
  refine g_sld (pc' := 431) C hX (i + 2) (nI_add i 2) (by omega) (by omega) dL_law_430 rfl ?_
  refine g_callV (pc' := 434) (k := 12) (i := 0) (As := [.int (xs (i + 1)), .int (xs (i + 2))]) C cv_L_102 (m_X4_pay X) dL_law_431 rfl rfl rfl ⟨rfl, by decide +kernel, by decide +kernel, (by decide +kernel : (parseMethodDescriptor yX4_pay.desc).map (fun d => d.parameters.length) = some 2)⟩ ⟨⟨Nat.le_of_ble_eq_true rfl, Nat.le_of_ble_eq_true rfl⟩, rfl, rfl⟩ rfl (Nat.le_of_ble_eq_true rfl) ⟨by show c ≤ 601024; omega, by show n ≤ 7293034; omega⟩ rfl (fun v1 I2 P2 q => ?_)
  obtain ⟨q1, q2, q3⟩ := q
  rw [q1, q2, q3]
  show G K z (mO3 I M (xs (i + 1)) (xs (i + 2))).1 P O c n 434 _ [.int (mO3 I M (xs (i + 1)) (xs (i + 2))).2]
  refine g_istore (pc' := 436) C dL_law_434 rfl rfl ?_
  refine g_aload_n (pc' := 437) C dL_law_436 rfl rfl ?_
  refine g_callV (pc' := 440) (k := 12) (i := 0) (As := []) C cv_L_87 (m_X4_thrown) dL_law_437 rfl rfl rfl ⟨rfl, by decide +kernel, by decide +kernel, (by decide +kernel : (parseMethodDescriptor yX4_thrown.desc).map (fun d => d.parameters.length) = some 0)⟩ ⟨⟨Nat.le_of_ble_eq_true rfl, Nat.le_of_ble_eq_true rfl⟩, rfl, rfl⟩ rfl (Nat.le_of_ble_eq_true rfl) ⟨by show c ≤ 601024; omega, by show n ≤ 7293034; omega⟩ rfl (fun v1 I2 P2 q => ?_)
  obtain ⟨q1, q2, q3⟩ := q
  rw [q1, q2, q3]
  show G K z (mO3 I M (xs (i + 1)) (xs (i + 2))).1 P O c n 440 _ [.int ((mO3 I M (xs (i + 1)) (xs (i + 2))).1 12 0 0)]
  refine g_iload (pc' := 442) C dL_law_440 rfl rfl ?_
  refine g_icmp_eq (tgt := 447) (pc' := 445) C dL_law_442 (by decide) rfl (fun _ => ?_) (fun h => absurd hth h)
  refine g_iload (pc' := 449) C dL_law_447 rfl rfl ?_
  refine g_if_ne (tgt := 464) (pc' := 452) C dL_law_449 (by decide) rfl (fun _ => ?_) (fun hk => ?_)
  · refine g_goto (tgt := 1516) C dL_law_464 (by decide) ?_
    exact G_pick [0, 1, 2, 3, 4] rfl next
  · refine g_aload_n (pc' := 453) C dL_law_452 rfl rfl ?_
    refine g_iconst (v := 0) (pc' := 454) C dL_law_453 (by decide) rfl ?_
    refine g_lald (pc' := 455) C dL_law_454 rfl ?_
    refine g_iload (pc' := 457) C dL_law_455 rfl rfl ?_
    refine g_i2l (pc' := 458) C dL_law_457 rfl ?_
    refine g_lcmp (pc' := 459) C dL_law_458 rfl ?_
    refine g_if_eq (tgt := 464) (pc' := 462) C dL_law_459 (by decide) rfl (fun _ => ?_) (fun h => absurd (by rw [hr hk]; exact lg_self _) h)
    refine g_goto (tgt := 1516) C dL_law_464 (by decide) ?_
    exact G_pick [0, 1, 2, 3, 4] rfl next
set_option maxRecDepth 20000 in
theorem t_decide {K : wK} {z : wZ} {I : wI} {P : wP} {O : wO} {c n b Ln i M N nw : Nat} {xs : Nat → Int32} {k : Int32} (C : Cx K cL_law RL 7 (some .boolean) room_1 z) (hX : SX K b Ln xs) (hLn : Ln ≤ 3072) (hi : i + 6 ≤ Ln) (hc : c ≤ 601024) (hn : n ≤ 7293034) (X : MI M N I) (hnow : I 12 0 1 = nI nw) (hnw : nw ≤ 1000) (hth : (mO4 I M N (xs (i + 1))).1 12 0 0 = k) (hr : k = 0 → O 0 = (mO4 I M N (xs (i + 1))).2.toInt64) (next : G K z (mO4 I M N (xs (i + 1))).1 P O c n 1516 [(0, .ref b), (1, .ref ((Kg K).2.2 0 0)), (2, .ref ((Kg K).2.2 12 0)), (3, .ref ((Kg K).2.2 14 0)), (4, .int (nI i))] []) : G K z I P O c n 478 [(0, .ref b), (1, .ref ((Kg K).2.2 0 0)), (2, .ref ((Kg K).2.2 12 0)), (3, .ref ((Kg K).2.2 14 0)), (4, .int (nI i))] [.int k] := by
  refine g_istore (pc' := 480) C dL_law_478 rfl rfl ?_
  refine g_aload_n (pc' := 481) C dL_law_480 rfl rfl ?_
  refine g_aload_n (pc' := 482) C dL_law_481 rfl rfl ?_
  refine g_iload (pc' := 484) C dL_law_482 rfl rfl ?_
  refine g_iconst (v := 1) (pc' := 485) C dL_law_484 (by decide) rfl ?_
  refine g_iadd (pc' := 486) C dL_law_485 rfl ?_
  refine g_sld (pc' := 487) C hX (i + 1) (nI_add i 1) (by omega) (by omega) dL_law_486 rfl ?_
  refine g_callV (pc' := 490) (k := 12) (i := 0) (As := [.int (xs (i + 1))]) C cv_L_106 (m_X4_decide X) dL_law_487 rfl rfl rfl ⟨rfl, by decide +kernel, by decide +kernel, (by decide +kernel : (parseMethodDescriptor yX4_decide.desc).map (fun d => d.parameters.length) = some 1)⟩ ⟨⟨Nat.le_of_ble_eq_true rfl, Nat.le_of_ble_eq_true rfl⟩, rfl, rfl⟩ rfl (Nat.le_of_ble_eq_true rfl) ⟨by show c ≤ 601024; omega, by show n ≤ 7293034; omega⟩ rfl (fun v1 I2 P2 q => ?_)
  obtain ⟨q1, q2, q3⟩ := q
  rw [q1, q2, q3]
  show G K z (mO4 I M N (xs (i + 1))).1 P O c n 490 _ [.int (mO4 I M N (xs (i + 1))).2]
  refine g_istore (pc' := 492) C dL_law_490 rfl rfl ?_
  refine g_aload_n (pc' := 493) C dL_law_492 rfl rfl ?_
  refine g_callV (pc' := 496) (k := 12) (i := 0) (As := []) C cv_L_87 (m_X4_thrown) dL_law_493 rfl rfl rfl ⟨rfl, by decide +kernel, by decide +kernel, (by decide +kernel : (parseMethodDescriptor yX4_thrown.desc).map (fun d => d.parameters.length) = some 0)⟩ ⟨⟨Nat.le_of_ble_eq_true rfl, Nat.le_of_ble_eq_true rfl⟩, rfl, rfl⟩ rfl (Nat.le_of_ble_eq_true rfl) ⟨by show c ≤ 601024; omega, by show n ≤ 7293034; omega⟩ rfl (fun v1 I2 P2 q => ?_)
  obtain ⟨q1, q2, q3⟩ := q
  rw [q1, q2, q3]
  show G K z (mO4 I M N (xs (i + 1))).1 P O c n 496 _ [.int ((mO4 I M N (xs (i + 1))).1 12 0 0)]
  refine g_iload (pc' := 498) C dL_law_496 rfl rfl ?_
  refine g_icmp_eq (tgt := 503) (pc' := 501) C dL_law_498 (by decide) rfl (fun _ => ?_) (fun h => absurd hth h)
  refine g_iload (pc' := 505) C dL_law_503 rfl rfl ?_
  refine g_if_ne (tgt := 520) (pc' := 508) C dL_law_505 (by decide) rfl (fun _ => ?_) (fun hk => ?_)
  · refine g_goto (tgt := 1516) C dL_law_520 (by decide) ?_
    exact G_pick [0, 1, 2, 3, 4] rfl next
  · refine g_aload_n (pc' := 509) C dL_law_508 rfl rfl ?_
    refine g_iconst (v := 0) (pc' := 510) C dL_law_509 (by decide) rfl ?_
    refine g_lald (pc' := 511) C dL_law_510 rfl ?_
    refine g_iload (pc' := 513) C dL_law_511 rfl rfl ?_
    refine g_i2l (pc' := 514) C dL_law_513 rfl ?_
    refine g_lcmp (pc' := 515) C dL_law_514 rfl ?_
    refine g_if_eq (tgt := 520) (pc' := 518) C dL_law_515 (by decide) rfl (fun _ => ?_) (fun h => absurd (by rw [hr hk]; exact lg_self _) h)
    refine g_goto (tgt := 1516) C dL_law_520 (by decide) ?_
    exact G_pick [0, 1, 2, 3, 4] rfl next
set_option maxRecDepth 20000 in
theorem t_appeal {K : wK} {z : wZ} {I : wI} {P : wP} {O : wO} {c n b Ln i M N nw : Nat} {xs : Nat → Int32} {k : Int32} (C : Cx K cL_law RL 7 (some .boolean) room_1 z) (hX : SX K b Ln xs) (hLn : Ln ≤ 3072) (hi : i + 6 ≤ Ln) (hc : c ≤ 601024) (hn : n ≤ 7293034) (X : MI M N I) (hnow : I 12 0 1 = nI nw) (hnw : nw ≤ 1000) (hth : (mO5 I M (xs (i + 1))).1 12 0 0 = k) (hr : k = 0 → O 0 = (mO5 I M (xs (i + 1))).2.toInt64) (next : G K z (mO5 I M (xs (i + 1))).1 P O c n 1516 [(0, .ref b), (1, .ref ((Kg K).2.2 0 0)), (2, .ref ((Kg K).2.2 12 0)), (3, .ref ((Kg K).2.2 14 0)), (4, .int (nI i))] []) : G K z I P O c n 534 [(0, .ref b), (1, .ref ((Kg K).2.2 0 0)), (2, .ref ((Kg K).2.2 12 0)), (3, .ref ((Kg K).2.2 14 0)), (4, .int (nI i))] [.int k] := by
  refine g_istore (pc' := 536) C dL_law_534 rfl rfl ?_
  refine g_aload_n (pc' := 537) C dL_law_536 rfl rfl ?_
  refine g_aload_n (pc' := 538) C dL_law_537 rfl rfl ?_
  refine g_iload (pc' := 540) C dL_law_538 rfl rfl ?_
  refine g_iconst (v := 1) (pc' := 541) C dL_law_540 (by decide) rfl ?_
  refine g_iadd (pc' := 542) C dL_law_541 rfl ?_
  refine g_sld (pc' := 543) C hX (i + 1) (nI_add i 1) (by omega) (by omega) dL_law_542 rfl ?_
  refine g_callV (pc' := 546) (k := 12) (i := 0) (As := [.int (xs (i + 1))]) C cv_L_109 (m_X4_appeal X) dL_law_543 rfl rfl rfl ⟨rfl, by decide +kernel, by decide +kernel, (by decide +kernel : (parseMethodDescriptor yX4_appeal.desc).map (fun d => d.parameters.length) = some 1)⟩ ⟨⟨Nat.le_of_ble_eq_true rfl, Nat.le_of_ble_eq_true rfl⟩, rfl, rfl⟩ rfl (Nat.le_of_ble_eq_true rfl) ⟨by show c ≤ 601024; omega, by show n ≤ 7293034; omega⟩ rfl (fun v1 I2 P2 q => ?_)
  obtain ⟨q1, q2, q3⟩ := q
  rw [q1, q2, q3]
  show G K z (mO5 I M (xs (i + 1))).1 P O c n 546 _ [.int (mO5 I M (xs (i + 1))).2]
  refine g_istore (pc' := 548) C dL_law_546 rfl rfl ?_
  refine g_aload_n (pc' := 549) C dL_law_548 rfl rfl ?_
  refine g_callV (pc' := 552) (k := 12) (i := 0) (As := []) C cv_L_87 (m_X4_thrown) dL_law_549 rfl rfl rfl ⟨rfl, by decide +kernel, by decide +kernel, (by decide +kernel : (parseMethodDescriptor yX4_thrown.desc).map (fun d => d.parameters.length) = some 0)⟩ ⟨⟨Nat.le_of_ble_eq_true rfl, Nat.le_of_ble_eq_true rfl⟩, rfl, rfl⟩ rfl (Nat.le_of_ble_eq_true rfl) ⟨by show c ≤ 601024; omega, by show n ≤ 7293034; omega⟩ rfl (fun v1 I2 P2 q => ?_)
  obtain ⟨q1, q2, q3⟩ := q
  rw [q1, q2, q3]
  show G K z (mO5 I M (xs (i + 1))).1 P O c n 552 _ [.int ((mO5 I M (xs (i + 1))).1 12 0 0)]
  refine g_iload (pc' := 554) C dL_law_552 rfl rfl ?_
  refine g_icmp_eq (tgt := 559) (pc' := 557) C dL_law_554 (by decide) rfl (fun _ => ?_) (fun h => absurd hth h)
  refine g_iload (pc' := 561) C dL_law_559 rfl rfl ?_
  refine g_if_ne (tgt := 576) (pc' := 564) C dL_law_561 (by decide) rfl (fun _ => ?_) (fun hk => ?_)
  · refine g_goto (tgt := 1516) C dL_law_576 (by decide) ?_
    exact G_pick [0, 1, 2, 3, 4] rfl next
  · refine g_aload_n (pc' := 565) C dL_law_564 rfl rfl ?_
    refine g_iconst (v := 0) (pc' := 566) C dL_law_565 (by decide) rfl ?_
    refine g_lald (pc' := 567) C dL_law_566 rfl ?_
    refine g_iload (pc' := 569) C dL_law_567 rfl rfl ?_
    refine g_i2l (pc' := 570) C dL_law_569 rfl ?_
    refine g_lcmp (pc' := 571) C dL_law_570 rfl ?_
    refine g_if_eq (tgt := 576) (pc' := 574) C dL_law_571 (by decide) rfl (fun _ => ?_) (fun h => absurd (by rw [hr hk]; exact lg_self _) h)
    refine g_goto (tgt := 1516) C dL_law_576 (by decide) ?_
    exact G_pick [0, 1, 2, 3, 4] rfl next
set_option maxRecDepth 20000 in
theorem t_settle0 {K : wK} {z : wZ} {I : wI} {P : wP} {O : wO} {c n b Ln i M N nw : Nat} {xs : Nat → Int32} {k : Int32} (C : Cx K cL_law RL 7 (some .boolean) room_1 z) (hX : SX K b Ln xs) (hLn : Ln ≤ 3072) (hi : i + 6 ≤ Ln) (hc : c ≤ 601024) (hn : n ≤ 7293034) (X : MI M N I) (hnow : I 12 0 1 = nI nw) (hnw : nw ≤ 1000) (hz : xs (i + 2) = 0) (hth : (mO6 I M (xs (i + 1)) (0 : Int32)).1 12 0 0 = k) (hr : k = 0 → O 0 = (mO6 I M (xs (i + 1)) (0 : Int32)).2.toInt64) (next : G K z (mO6 I M (xs (i + 1)) (0 : Int32)).1 P O c n 1516 [(0, .ref b), (1, .ref ((Kg K).2.2 0 0)), (2, .ref ((Kg K).2.2 12 0)), (3, .ref ((Kg K).2.2 14 0)), (4, .int (nI i))] []) : G K z I P O c n 604 [(0, .ref b), (1, .ref ((Kg K).2.2 0 0)), (2, .ref ((Kg K).2.2 12 0)), (3, .ref ((Kg K).2.2 14 0)), (4, .int (nI i))] [.int k] := by
  refine g_istore (pc' := 606) C dL_law_604 rfl rfl ?_
  refine g_aload_n (pc' := 607) C dL_law_606 rfl rfl ?_
  refine g_aload_n (pc' := 608) C dL_law_607 rfl rfl ?_
  refine g_iload (pc' := 610) C dL_law_608 rfl rfl ?_
  refine g_iconst (v := 1) (pc' := 611) C dL_law_610 (by decide) rfl ?_
  refine g_iadd (pc' := 612) C dL_law_611 rfl ?_
  refine g_sld (pc' := 613) C hX (i + 1) (nI_add i 1) (by omega) (by omega) dL_law_612 rfl ?_
  refine g_aload_n (pc' := 614) C dL_law_613 rfl rfl ?_
  refine g_iload (pc' := 616) C dL_law_614 rfl rfl ?_
  refine g_iconst (v := 2) (pc' := 617) C dL_law_616 (by decide) rfl ?_
  refine g_iadd (pc' := 618) C dL_law_617 rfl ?_
  refine g_sld (pc' := 619) C hX (i + 2) (nI_add i 2) (by omega) (by omega) dL_law_618 rfl ?_
  refine g_if_eq (tgt := 626) (pc' := 622) C dL_law_619 (by decide) rfl (fun _ => ?_) (fun h => absurd hz h)
  refine g_iconst (v := 0) (pc' := 627) C dL_law_626 (by decide) rfl ?_
  refine g_callV (pc' := 630) (k := 12) (i := 0) (As := [.int (xs (i + 1)), .int (0 : Int32)]) C cv_L_112 (m_X4_settle X) dL_law_627 rfl rfl rfl ⟨rfl, by decide +kernel, by decide +kernel, (by decide +kernel : (parseMethodDescriptor yX4_settle.desc).map (fun d => d.parameters.length) = some 2)⟩ ⟨⟨Nat.le_of_ble_eq_true rfl, Nat.le_of_ble_eq_true rfl⟩, rfl, rfl⟩ rfl (Nat.le_of_ble_eq_true rfl) ⟨by show c ≤ 601024; omega, by show n ≤ 7293034; omega⟩ rfl (fun v1 I2 P2 q => ?_)
  obtain ⟨q1, q2, q3⟩ := q
  rw [q1, q2, q3]
  show G K z (mO6 I M (xs (i + 1)) (0 : Int32)).1 P O c n 630 _ [.int (mO6 I M (xs (i + 1)) (0 : Int32)).2]
  refine g_istore (pc' := 632) C dL_law_630 rfl rfl ?_
  refine g_aload_n (pc' := 633) C dL_law_632 rfl rfl ?_
  refine g_callV (pc' := 636) (k := 12) (i := 0) (As := []) C cv_L_87 (m_X4_thrown) dL_law_633 rfl rfl rfl ⟨rfl, by decide +kernel, by decide +kernel, (by decide +kernel : (parseMethodDescriptor yX4_thrown.desc).map (fun d => d.parameters.length) = some 0)⟩ ⟨⟨Nat.le_of_ble_eq_true rfl, Nat.le_of_ble_eq_true rfl⟩, rfl, rfl⟩ rfl (Nat.le_of_ble_eq_true rfl) ⟨by show c ≤ 601024; omega, by show n ≤ 7293034; omega⟩ rfl (fun v1 I2 P2 q => ?_)
  obtain ⟨q1, q2, q3⟩ := q
  rw [q1, q2, q3]
  show G K z (mO6 I M (xs (i + 1)) (0 : Int32)).1 P O c n 636 _ [.int ((mO6 I M (xs (i + 1)) (0 : Int32)).1 12 0 0)]
  refine g_iload (pc' := 638) C dL_law_636 rfl rfl ?_
  refine g_icmp_eq (tgt := 643) (pc' := 641) C dL_law_638 (by decide) rfl (fun _ => ?_) (fun h => absurd hth h)
  refine g_iload (pc' := 645) C dL_law_643 rfl rfl ?_
  refine g_if_ne (tgt := 660) (pc' := 648) C dL_law_645 (by decide) rfl (fun _ => ?_) (fun hk => ?_)
  · refine g_goto (tgt := 1516) C dL_law_660 (by decide) ?_
    exact G_pick [0, 1, 2, 3, 4] rfl next
  · refine g_aload_n (pc' := 649) C dL_law_648 rfl rfl ?_
    refine g_iconst (v := 0) (pc' := 650) C dL_law_649 (by decide) rfl ?_
    refine g_lald (pc' := 651) C dL_law_650 rfl ?_
    refine g_iload (pc' := 653) C dL_law_651 rfl rfl ?_
    refine g_i2l (pc' := 654) C dL_law_653 rfl ?_
    refine g_lcmp (pc' := 655) C dL_law_654 rfl ?_
    refine g_if_eq (tgt := 660) (pc' := 658) C dL_law_655 (by decide) rfl (fun _ => ?_) (fun h => absurd (by rw [hr hk]; exact lg_self _) h)
    refine g_goto (tgt := 1516) C dL_law_660 (by decide) ?_
    exact G_pick [0, 1, 2, 3, 4] rfl next
set_option maxRecDepth 20000 in
theorem t_settle1 {K : wK} {z : wZ} {I : wI} {P : wP} {O : wO} {c n b Ln i M N nw : Nat} {xs : Nat → Int32} {k : Int32} (C : Cx K cL_law RL 7 (some .boolean) room_1 z) (hX : SX K b Ln xs) (hLn : Ln ≤ 3072) (hi : i + 6 ≤ Ln) (hc : c ≤ 601024) (hn : n ≤ 7293034) (X : MI M N I) (hnow : I 12 0 1 = nI nw) (hnw : nw ≤ 1000) (hz : ¬ xs (i + 2) = 0) (hth : (mO6 I M (xs (i + 1)) (1 : Int32)).1 12 0 0 = k) (hr : k = 0 → O 0 = (mO6 I M (xs (i + 1)) (1 : Int32)).2.toInt64) (next : G K z (mO6 I M (xs (i + 1)) (1 : Int32)).1 P O c n 1516 [(0, .ref b), (1, .ref ((Kg K).2.2 0 0)), (2, .ref ((Kg K).2.2 12 0)), (3, .ref ((Kg K).2.2 14 0)), (4, .int (nI i))] []) : G K z I P O c n 604 [(0, .ref b), (1, .ref ((Kg K).2.2 0 0)), (2, .ref ((Kg K).2.2 12 0)), (3, .ref ((Kg K).2.2 14 0)), (4, .int (nI i))] [.int k] := by
  refine g_istore (pc' := 606) C dL_law_604 rfl rfl ?_
  refine g_aload_n (pc' := 607) C dL_law_606 rfl rfl ?_
  refine g_aload_n (pc' := 608) C dL_law_607 rfl rfl ?_
  refine g_iload (pc' := 610) C dL_law_608 rfl rfl ?_
  refine g_iconst (v := 1) (pc' := 611) C dL_law_610 (by decide) rfl ?_
  refine g_iadd (pc' := 612) C dL_law_611 rfl ?_
  refine g_sld (pc' := 613) C hX (i + 1) (nI_add i 1) (by omega) (by omega) dL_law_612 rfl ?_
  refine g_aload_n (pc' := 614) C dL_law_613 rfl rfl ?_
  refine g_iload (pc' := 616) C dL_law_614 rfl rfl ?_
  refine g_iconst (v := 2) (pc' := 617) C dL_law_616 (by decide) rfl ?_
  refine g_iadd (pc' := 618) C dL_law_617 rfl ?_
  refine g_sld (pc' := 619) C hX (i + 2) (nI_add i 2) (by omega) (by omega) dL_law_618 rfl ?_
  refine g_if_eq (tgt := 626) (pc' := 622) C dL_law_619 (by decide) rfl (fun h => absurd h hz) (fun _ => ?_)
  refine g_iconst (v := 1) (pc' := 623) C dL_law_622 (by decide) rfl ?_
  refine g_goto (tgt := 627) C dL_law_623 (by decide) ?_
  refine g_callV (pc' := 630) (k := 12) (i := 0) (As := [.int (xs (i + 1)), .int (1 : Int32)]) C cv_L_112 (m_X4_settle X) dL_law_627 rfl rfl rfl ⟨rfl, by decide +kernel, by decide +kernel, (by decide +kernel : (parseMethodDescriptor yX4_settle.desc).map (fun d => d.parameters.length) = some 2)⟩ ⟨⟨Nat.le_of_ble_eq_true rfl, Nat.le_of_ble_eq_true rfl⟩, rfl, rfl⟩ rfl (Nat.le_of_ble_eq_true rfl) ⟨by show c ≤ 601024; omega, by show n ≤ 7293034; omega⟩ rfl (fun v1 I2 P2 q => ?_)
  obtain ⟨q1, q2, q3⟩ := q
  rw [q1, q2, q3]
  show G K z (mO6 I M (xs (i + 1)) (1 : Int32)).1 P O c n 630 _ [.int (mO6 I M (xs (i + 1)) (1 : Int32)).2]
  refine g_istore (pc' := 632) C dL_law_630 rfl rfl ?_
  refine g_aload_n (pc' := 633) C dL_law_632 rfl rfl ?_
  refine g_callV (pc' := 636) (k := 12) (i := 0) (As := []) C cv_L_87 (m_X4_thrown) dL_law_633 rfl rfl rfl ⟨rfl, by decide +kernel, by decide +kernel, (by decide +kernel : (parseMethodDescriptor yX4_thrown.desc).map (fun d => d.parameters.length) = some 0)⟩ ⟨⟨Nat.le_of_ble_eq_true rfl, Nat.le_of_ble_eq_true rfl⟩, rfl, rfl⟩ rfl (Nat.le_of_ble_eq_true rfl) ⟨by show c ≤ 601024; omega, by show n ≤ 7293034; omega⟩ rfl (fun v1 I2 P2 q => ?_)
  obtain ⟨q1, q2, q3⟩ := q
  rw [q1, q2, q3]
  show G K z (mO6 I M (xs (i + 1)) (1 : Int32)).1 P O c n 636 _ [.int ((mO6 I M (xs (i + 1)) (1 : Int32)).1 12 0 0)]
  refine g_iload (pc' := 638) C dL_law_636 rfl rfl ?_
  refine g_icmp_eq (tgt := 643) (pc' := 641) C dL_law_638 (by decide) rfl (fun _ => ?_) (fun h => absurd hth h)
  refine g_iload (pc' := 645) C dL_law_643 rfl rfl ?_
  refine g_if_ne (tgt := 660) (pc' := 648) C dL_law_645 (by decide) rfl (fun _ => ?_) (fun hk => ?_)
  · refine g_goto (tgt := 1516) C dL_law_660 (by decide) ?_
    exact G_pick [0, 1, 2, 3, 4] rfl next
  · refine g_aload_n (pc' := 649) C dL_law_648 rfl rfl ?_
    refine g_iconst (v := 0) (pc' := 650) C dL_law_649 (by decide) rfl ?_
    refine g_lald (pc' := 651) C dL_law_650 rfl ?_
    refine g_iload (pc' := 653) C dL_law_651 rfl rfl ?_
    refine g_i2l (pc' := 654) C dL_law_653 rfl ?_
    refine g_lcmp (pc' := 655) C dL_law_654 rfl ?_
    refine g_if_eq (tgt := 660) (pc' := 658) C dL_law_655 (by decide) rfl (fun _ => ?_) (fun h => absurd (by rw [hr hk]; exact lg_self _) h)
    refine g_goto (tgt := 1516) C dL_law_660 (by decide) ?_
    exact G_pick [0, 1, 2, 3, 4] rfl next
set_option maxRecDepth 20000 in
theorem t_close {K : wK} {z : wZ} {I : wI} {P : wP} {O : wO} {c n b Ln i M N nw : Nat} {xs : Nat → Int32} {k : Int32} (C : Cx K cL_law RL 7 (some .boolean) room_1 z) (hX : SX K b Ln xs) (hLn : Ln ≤ 3072) (hi : i + 6 ≤ Ln) (hc : c ≤ 601024) (hn : n ≤ 7293034) (X : MI M N I) (hnow : I 12 0 1 = nI nw) (hnw : nw ≤ 1000) (hth : (mO7 I M (xs (i + 1))).1 12 0 0 = k) (hr : k = 0 → O 0 = (mO7 I M (xs (i + 1))).2.toInt64) (next : G K z (mO7 I M (xs (i + 1))).1 P O c n 1516 [(0, .ref b), (1, .ref ((Kg K).2.2 0 0)), (2, .ref ((Kg K).2.2 12 0)), (3, .ref ((Kg K).2.2 14 0)), (4, .int (nI i))] []) : G K z I P O c n 674 [(0, .ref b), (1, .ref ((Kg K).2.2 0 0)), (2, .ref ((Kg K).2.2 12 0)), (3, .ref ((Kg K).2.2 14 0)), (4, .int (nI i))] [.int k] := by
  refine g_istore (pc' := 676) C dL_law_674 rfl rfl ?_
  refine g_aload_n (pc' := 677) C dL_law_676 rfl rfl ?_
  refine g_aload_n (pc' := 678) C dL_law_677 rfl rfl ?_
  refine g_iload (pc' := 680) C dL_law_678 rfl rfl ?_
  refine g_iconst (v := 1) (pc' := 681) C dL_law_680 (by decide) rfl ?_
  refine g_iadd (pc' := 682) C dL_law_681 rfl ?_
  refine g_sld (pc' := 683) C hX (i + 1) (nI_add i 1) (by omega) (by omega) dL_law_682 rfl ?_
  refine g_callV (pc' := 686) (k := 12) (i := 0) (As := [.int (xs (i + 1))]) C cv_L_115 (m_X4_close X) dL_law_683 rfl rfl rfl ⟨rfl, by decide +kernel, by decide +kernel, (by decide +kernel : (parseMethodDescriptor yX4_close.desc).map (fun d => d.parameters.length) = some 1)⟩ ⟨⟨Nat.le_of_ble_eq_true rfl, Nat.le_of_ble_eq_true rfl⟩, rfl, rfl⟩ rfl (Nat.le_of_ble_eq_true rfl) ⟨by show c ≤ 601024; omega, by show n ≤ 7293034; omega⟩ rfl (fun v1 I2 P2 q => ?_)
  obtain ⟨q1, q2, q3⟩ := q
  rw [q1, q2, q3]
  show G K z (mO7 I M (xs (i + 1))).1 P O c n 686 _ [.int (mO7 I M (xs (i + 1))).2]
  refine g_istore (pc' := 688) C dL_law_686 rfl rfl ?_
  refine g_aload_n (pc' := 689) C dL_law_688 rfl rfl ?_
  refine g_callV (pc' := 692) (k := 12) (i := 0) (As := []) C cv_L_87 (m_X4_thrown) dL_law_689 rfl rfl rfl ⟨rfl, by decide +kernel, by decide +kernel, (by decide +kernel : (parseMethodDescriptor yX4_thrown.desc).map (fun d => d.parameters.length) = some 0)⟩ ⟨⟨Nat.le_of_ble_eq_true rfl, Nat.le_of_ble_eq_true rfl⟩, rfl, rfl⟩ rfl (Nat.le_of_ble_eq_true rfl) ⟨by show c ≤ 601024; omega, by show n ≤ 7293034; omega⟩ rfl (fun v1 I2 P2 q => ?_)
  obtain ⟨q1, q2, q3⟩ := q
  rw [q1, q2, q3]
  show G K z (mO7 I M (xs (i + 1))).1 P O c n 692 _ [.int ((mO7 I M (xs (i + 1))).1 12 0 0)]
  refine g_iload (pc' := 694) C dL_law_692 rfl rfl ?_
  refine g_icmp_eq (tgt := 699) (pc' := 697) C dL_law_694 (by decide) rfl (fun _ => ?_) (fun h => absurd hth h)
  refine g_iload (pc' := 701) C dL_law_699 rfl rfl ?_
  refine g_if_ne (tgt := 716) (pc' := 704) C dL_law_701 (by decide) rfl (fun _ => ?_) (fun hk => ?_)
  · refine g_goto (tgt := 1516) C dL_law_716 (by decide) ?_
    exact G_pick [0, 1, 2, 3, 4] rfl next
  · refine g_aload_n (pc' := 705) C dL_law_704 rfl rfl ?_
    refine g_iconst (v := 0) (pc' := 706) C dL_law_705 (by decide) rfl ?_
    refine g_lald (pc' := 707) C dL_law_706 rfl ?_
    refine g_iload (pc' := 709) C dL_law_707 rfl rfl ?_
    refine g_i2l (pc' := 710) C dL_law_709 rfl ?_
    refine g_lcmp (pc' := 711) C dL_law_710 rfl ?_
    refine g_if_eq (tgt := 716) (pc' := 714) C dL_law_711 (by decide) rfl (fun _ => ?_) (fun h => absurd (by rw [hr hk]; exact lg_self _) h)
    refine g_goto (tgt := 1516) C dL_law_716 (by decide) ?_
    exact G_pick [0, 1, 2, 3, 4] rfl next
set_option maxRecDepth 20000 in
theorem t_plan {K : wK} {z : wZ} {I : wI} {P : wP} {O : wO} {c n b Ln i M N nw : Nat} {xs : Nat → Int32} {k : Int32} (C : Cx K cL_law RL 7 (some .boolean) room_1 z) (hX : SX K b Ln xs) (hLn : Ln ≤ 3072) (hi : i + 6 ≤ Ln) (hc : c ≤ 601024) (hn : n ≤ 7293034) (X : MI M N I) (hnow : I 12 0 1 = nI nw) (hnw : nw ≤ 1000) (hth : (mO8 I M N (xs (i + 1)) (xs (i + 2)) (xs (i + 3)) (xs (i + 4)) (xs (i + 5))).1 12 0 0 = k) (hr : k = 0 → O 0 = (mO8 I M N (xs (i + 1)) (xs (i + 2)) (xs (i + 3)) (xs (i + 4)) (xs (i + 5))).2.toInt64) (next : G K z (mO8 I M N (xs (i + 1)) (xs (i + 2)) (xs (i + 3)) (xs (i + 4)) (xs (i + 5))).1 P O c n 1516 [(0, .ref b), (1, .ref ((Kg K).2.2 0 0)), (2, .ref ((Kg K).2.2 12 0)), (3, .ref ((Kg K).2.2 14 0)), (4, .int (nI i))] []) : G K z I P O c n 754 [(0, .ref b), (1, .ref ((Kg K).2.2 0 0)), (2, .ref ((Kg K).2.2 12 0)), (3, .ref ((Kg K).2.2 14 0)), (4, .int (nI i))] [.int k] := by
  refine g_istore (pc' := 756) C dL_law_754 rfl rfl ?_
  refine g_aload_n (pc' := 757) C dL_law_756 rfl rfl ?_
  refine g_aload_n (pc' := 758) C dL_law_757 rfl rfl ?_
  refine g_iload (pc' := 760) C dL_law_758 rfl rfl ?_
  refine g_iconst (v := 1) (pc' := 761) C dL_law_760 (by decide) rfl ?_
  refine g_iadd (pc' := 762) C dL_law_761 rfl ?_
  refine g_sld (pc' := 763) C hX (i + 1) (nI_add i 1) (by omega) (by omega) dL_law_762 rfl ?_
  refine g_aload_n (pc' := 764) C dL_law_763 rfl rfl ?_
  refine g_iload (pc' := 766) C dL_law_764 rfl rfl ?_
  refine g_iconst (v := 2) (pc' := 767) C dL_law_766 (by decide) rfl ?_
  refine g_iadd (pc' := 768) C dL_law_767 rfl ?_
  refine g_sld (pc' := 769) C hX (i + 2) (nI_add i 2) (by omega) (by omega) dL_law_768 rfl ?_
  refine g_aload_n (pc' := 770) C dL_law_769 rfl rfl ?_
  refine g_iload (pc' := 772) C dL_law_770 rfl rfl ?_
  refine g_iconst (v := 3) (pc' := 773) C dL_law_772 (by decide) rfl ?_
  refine g_iadd (pc' := 774) C dL_law_773 rfl ?_
  refine g_sld (pc' := 775) C hX (i + 3) (nI_add i 3) (by omega) (by omega) dL_law_774 rfl ?_
  refine g_aload_n (pc' := 776) C dL_law_775 rfl rfl ?_
  refine g_iload (pc' := 778) C dL_law_776 rfl rfl ?_
  refine g_iconst (v := 4) (pc' := 779) C dL_law_778 (by decide) rfl ?_
  refine g_iadd (pc' := 780) C dL_law_779 rfl ?_
  refine g_sld (pc' := 781) C hX (i + 4) (nI_add i 4) (by omega) (by omega) dL_law_780 rfl ?_
  refine g_aload_n (pc' := 782) C dL_law_781 rfl rfl ?_
  refine g_iload (pc' := 784) C dL_law_782 rfl rfl ?_
  refine g_iconst (v := 5) (pc' := 785) C dL_law_784 (by decide) rfl ?_
  refine g_iadd (pc' := 786) C dL_law_785 rfl ?_
  refine g_sld (pc' := 787) C hX (i + 5) (nI_add i 5) (by omega) (by omega) dL_law_786 rfl ?_
  refine g_callV (pc' := 790) (k := 12) (i := 0) (As := [.int (xs (i + 1)), .int (xs (i + 2)), .int (xs (i + 3)), .int (xs (i + 4)), .int (xs (i + 5))]) C cv_L_119 (m_X4_plan X hnow hnw) dL_law_787 rfl rfl rfl ⟨rfl, by decide +kernel, by decide +kernel, (by decide +kernel : (parseMethodDescriptor yX4_plan.desc).map (fun d => d.parameters.length) = some 5)⟩ ⟨⟨Nat.le_of_ble_eq_true rfl, Nat.le_of_ble_eq_true rfl⟩, rfl, rfl⟩ rfl (Nat.le_of_ble_eq_true rfl) ⟨by show c ≤ 601024; omega, by show n ≤ 7293034; omega⟩ rfl (fun v1 I2 P2 q => ?_)
  obtain ⟨q1, q2, q3⟩ := q
  rw [q1, q2, q3]
  show G K z (mO8 I M N (xs (i + 1)) (xs (i + 2)) (xs (i + 3)) (xs (i + 4)) (xs (i + 5))).1 P O c n 790 _ [.int (mO8 I M N (xs (i + 1)) (xs (i + 2)) (xs (i + 3)) (xs (i + 4)) (xs (i + 5))).2]
  refine g_istore (pc' := 792) C dL_law_790 rfl rfl ?_
  refine g_aload_n (pc' := 793) C dL_law_792 rfl rfl ?_
  refine g_callV (pc' := 796) (k := 12) (i := 0) (As := []) C cv_L_87 (m_X4_thrown) dL_law_793 rfl rfl rfl ⟨rfl, by decide +kernel, by decide +kernel, (by decide +kernel : (parseMethodDescriptor yX4_thrown.desc).map (fun d => d.parameters.length) = some 0)⟩ ⟨⟨Nat.le_of_ble_eq_true rfl, Nat.le_of_ble_eq_true rfl⟩, rfl, rfl⟩ rfl (Nat.le_of_ble_eq_true rfl) ⟨by show c ≤ 601024; omega, by show n ≤ 7293034; omega⟩ rfl (fun v1 I2 P2 q => ?_)
  obtain ⟨q1, q2, q3⟩ := q
  rw [q1, q2, q3]
  show G K z (mO8 I M N (xs (i + 1)) (xs (i + 2)) (xs (i + 3)) (xs (i + 4)) (xs (i + 5))).1 P O c n 796 _ [.int ((mO8 I M N (xs (i + 1)) (xs (i + 2)) (xs (i + 3)) (xs (i + 4)) (xs (i + 5))).1 12 0 0)]
  refine g_iload (pc' := 798) C dL_law_796 rfl rfl ?_
  refine g_icmp_eq (tgt := 803) (pc' := 801) C dL_law_798 (by decide) rfl (fun _ => ?_) (fun h => absurd hth h)
  refine g_iload (pc' := 805) C dL_law_803 rfl rfl ?_
  refine g_if_ne (tgt := 820) (pc' := 808) C dL_law_805 (by decide) rfl (fun _ => ?_) (fun hk => ?_)
  · refine g_goto (tgt := 1516) C dL_law_820 (by decide) ?_
    exact G_pick [0, 1, 2, 3, 4] rfl next
  · refine g_aload_n (pc' := 809) C dL_law_808 rfl rfl ?_
    refine g_iconst (v := 0) (pc' := 810) C dL_law_809 (by decide) rfl ?_
    refine g_lald (pc' := 811) C dL_law_810 rfl ?_
    refine g_iload (pc' := 813) C dL_law_811 rfl rfl ?_
    refine g_i2l (pc' := 814) C dL_law_813 rfl ?_
    refine g_lcmp (pc' := 815) C dL_law_814 rfl ?_
    refine g_if_eq (tgt := 820) (pc' := 818) C dL_law_815 (by decide) rfl (fun _ => ?_) (fun h => absurd (by rw [hr hk]; exact lg_self _) h)
    refine g_goto (tgt := 1516) C dL_law_820 (by decide) ?_
    exact G_pick [0, 1, 2, 3, 4] rfl next
set_option maxRecDepth 20000 in
theorem t_move {K : wK} {z : wZ} {I : wI} {P : wP} {O : wO} {c n b Ln i M N nw : Nat} {xs : Nat → Int32} {k : Int32} (C : Cx K cL_law RL 7 (some .boolean) room_1 z) (hX : SX K b Ln xs) (hLn : Ln ≤ 3072) (hi : i + 6 ≤ Ln) (hc : c ≤ 601024) (hn : n ≤ 7293034) (X : MI M N I) (hnow : I 12 0 1 = nI nw) (hnw : nw ≤ 1000) (hth : (mO9 I N (xs (i + 1)) (xs (i + 2)) (xs (i + 3)) (xs (i + 4))).1 12 0 0 = k) (hr : k = 0 → O 0 = (mO9 I N (xs (i + 1)) (xs (i + 2)) (xs (i + 3)) (xs (i + 4))).2.toInt64) (next : G K z (mO9 I N (xs (i + 1)) (xs (i + 2)) (xs (i + 3)) (xs (i + 4))).1 P O c n 1516 [(0, .ref b), (1, .ref ((Kg K).2.2 0 0)), (2, .ref ((Kg K).2.2 12 0)), (3, .ref ((Kg K).2.2 14 0)), (4, .int (nI i))] []) : G K z I P O c n 852 [(0, .ref b), (1, .ref ((Kg K).2.2 0 0)), (2, .ref ((Kg K).2.2 12 0)), (3, .ref ((Kg K).2.2 14 0)), (4, .int (nI i))] [.int k] := by
  refine g_istore (pc' := 854) C dL_law_852 rfl rfl ?_
  refine g_aload_n (pc' := 855) C dL_law_854 rfl rfl ?_
  refine g_aload_n (pc' := 856) C dL_law_855 rfl rfl ?_
  refine g_iload (pc' := 858) C dL_law_856 rfl rfl ?_
  refine g_iconst (v := 1) (pc' := 859) C dL_law_858 (by decide) rfl ?_
  refine g_iadd (pc' := 860) C dL_law_859 rfl ?_
  refine g_sld (pc' := 861) C hX (i + 1) (nI_add i 1) (by omega) (by omega) dL_law_860 rfl ?_
  refine g_aload_n (pc' := 862) C dL_law_861 rfl rfl ?_
  refine g_iload (pc' := 864) C dL_law_862 rfl rfl ?_
  refine g_iconst (v := 2) (pc' := 865) C dL_law_864 (by decide) rfl ?_
  refine g_iadd (pc' := 866) C dL_law_865 rfl ?_
  refine g_sld (pc' := 867) C hX (i + 2) (nI_add i 2) (by omega) (by omega) dL_law_866 rfl ?_
  refine g_aload_n (pc' := 868) C dL_law_867 rfl rfl ?_
  refine g_iload (pc' := 870) C dL_law_868 rfl rfl ?_
  refine g_iconst (v := 3) (pc' := 871) C dL_law_870 (by decide) rfl ?_
  refine g_iadd (pc' := 872) C dL_law_871 rfl ?_
  refine g_sld (pc' := 873) C hX (i + 3) (nI_add i 3) (by omega) (by omega) dL_law_872 rfl ?_
  refine g_aload_n (pc' := 874) C dL_law_873 rfl rfl ?_
  refine g_iload (pc' := 876) C dL_law_874 rfl rfl ?_
  refine g_iconst (v := 4) (pc' := 877) C dL_law_876 (by decide) rfl ?_
  refine g_iadd (pc' := 878) C dL_law_877 rfl ?_
  refine g_sld (pc' := 879) C hX (i + 4) (nI_add i 4) (by omega) (by omega) dL_law_878 rfl ?_
  refine g_callV (pc' := 882) (k := 12) (i := 0) (As := [.int (xs (i + 1)), .int (xs (i + 2)), .int (xs (i + 3)), .int (xs (i + 4))]) C cv_L_122 (m_X4_move X hnow hnw) dL_law_879 rfl rfl rfl ⟨rfl, by decide +kernel, by decide +kernel, (by decide +kernel : (parseMethodDescriptor yX4_move.desc).map (fun d => d.parameters.length) = some 4)⟩ ⟨⟨Nat.le_of_ble_eq_true rfl, Nat.le_of_ble_eq_true rfl⟩, rfl, rfl⟩ rfl (Nat.le_of_ble_eq_true rfl) ⟨by show c ≤ 601024; omega, by show n ≤ 7293034; omega⟩ rfl (fun v1 I2 P2 q => ?_)
  obtain ⟨q1, q2, q3⟩ := q
  rw [q1, q2, q3]
  show G K z (mO9 I N (xs (i + 1)) (xs (i + 2)) (xs (i + 3)) (xs (i + 4))).1 P O c n 882 _ [.int (mO9 I N (xs (i + 1)) (xs (i + 2)) (xs (i + 3)) (xs (i + 4))).2]
  refine g_istore (pc' := 884) C dL_law_882 rfl rfl ?_
  refine g_aload_n (pc' := 885) C dL_law_884 rfl rfl ?_
  refine g_callV (pc' := 888) (k := 12) (i := 0) (As := []) C cv_L_87 (m_X4_thrown) dL_law_885 rfl rfl rfl ⟨rfl, by decide +kernel, by decide +kernel, (by decide +kernel : (parseMethodDescriptor yX4_thrown.desc).map (fun d => d.parameters.length) = some 0)⟩ ⟨⟨Nat.le_of_ble_eq_true rfl, Nat.le_of_ble_eq_true rfl⟩, rfl, rfl⟩ rfl (Nat.le_of_ble_eq_true rfl) ⟨by show c ≤ 601024; omega, by show n ≤ 7293034; omega⟩ rfl (fun v1 I2 P2 q => ?_)
  obtain ⟨q1, q2, q3⟩ := q
  rw [q1, q2, q3]
  show G K z (mO9 I N (xs (i + 1)) (xs (i + 2)) (xs (i + 3)) (xs (i + 4))).1 P O c n 888 _ [.int ((mO9 I N (xs (i + 1)) (xs (i + 2)) (xs (i + 3)) (xs (i + 4))).1 12 0 0)]
  refine g_iload (pc' := 890) C dL_law_888 rfl rfl ?_
  refine g_icmp_eq (tgt := 895) (pc' := 893) C dL_law_890 (by decide) rfl (fun _ => ?_) (fun h => absurd hth h)
  refine g_iload (pc' := 897) C dL_law_895 rfl rfl ?_
  refine g_if_ne (tgt := 912) (pc' := 900) C dL_law_897 (by decide) rfl (fun _ => ?_) (fun hk => ?_)
  · refine g_goto (tgt := 1516) C dL_law_912 (by decide) ?_
    exact G_pick [0, 1, 2, 3, 4] rfl next
  · refine g_aload_n (pc' := 901) C dL_law_900 rfl rfl ?_
    refine g_iconst (v := 0) (pc' := 902) C dL_law_901 (by decide) rfl ?_
    refine g_lald (pc' := 903) C dL_law_902 rfl ?_
    refine g_iload (pc' := 905) C dL_law_903 rfl rfl ?_
    refine g_i2l (pc' := 906) C dL_law_905 rfl ?_
    refine g_lcmp (pc' := 907) C dL_law_906 rfl ?_
    refine g_if_eq (tgt := 912) (pc' := 910) C dL_law_907 (by decide) rfl (fun _ => ?_) (fun h => absurd (by rw [hr hk]; exact lg_self _) h)
    refine g_goto (tgt := 1516) C dL_law_912 (by decide) ?_
    exact G_pick [0, 1, 2, 3, 4] rfl next
set_option maxRecDepth 20000 in
theorem t_drop {K : wK} {z : wZ} {I : wI} {P : wP} {O : wO} {c n b Ln i M N nw : Nat} {xs : Nat → Int32} {k : Int32} (C : Cx K cL_law RL 7 (some .boolean) room_1 z) (hX : SX K b Ln xs) (hLn : Ln ≤ 3072) (hi : i + 6 ≤ Ln) (hc : c ≤ 601024) (hn : n ≤ 7293034) (X : MI M N I) (hnow : I 12 0 1 = nI nw) (hnw : nw ≤ 1000) (hth : (mO10 I N (xs (i + 1))).1 12 0 0 = k) (hr : k = 0 → O 0 = (mO10 I N (xs (i + 1))).2.toInt64) (next : G K z (mO10 I N (xs (i + 1))).1 P O c n 1516 [(0, .ref b), (1, .ref ((Kg K).2.2 0 0)), (2, .ref ((Kg K).2.2 12 0)), (3, .ref ((Kg K).2.2 14 0)), (4, .int (nI i))] []) : G K z I P O c n 926 [(0, .ref b), (1, .ref ((Kg K).2.2 0 0)), (2, .ref ((Kg K).2.2 12 0)), (3, .ref ((Kg K).2.2 14 0)), (4, .int (nI i))] [.int k] := by
  refine g_istore (pc' := 928) C dL_law_926 rfl rfl ?_
  refine g_aload_n (pc' := 929) C dL_law_928 rfl rfl ?_
  refine g_aload_n (pc' := 930) C dL_law_929 rfl rfl ?_
  refine g_iload (pc' := 932) C dL_law_930 rfl rfl ?_
  refine g_iconst (v := 1) (pc' := 933) C dL_law_932 (by decide) rfl ?_
  refine g_iadd (pc' := 934) C dL_law_933 rfl ?_
  refine g_sld (pc' := 935) C hX (i + 1) (nI_add i 1) (by omega) (by omega) dL_law_934 rfl ?_
  refine g_callV (pc' := 938) (k := 12) (i := 0) (As := [.int (xs (i + 1))]) C cv_L_125 (m_X4_drop X) dL_law_935 rfl rfl rfl ⟨rfl, by decide +kernel, by decide +kernel, (by decide +kernel : (parseMethodDescriptor yX4_drop.desc).map (fun d => d.parameters.length) = some 1)⟩ ⟨⟨Nat.le_of_ble_eq_true rfl, Nat.le_of_ble_eq_true rfl⟩, rfl, rfl⟩ rfl (Nat.le_of_ble_eq_true rfl) ⟨by show c ≤ 601024; omega, by show n ≤ 7293034; omega⟩ rfl (fun v1 I2 P2 q => ?_)
  obtain ⟨q1, q2, q3⟩ := q
  rw [q1, q2, q3]
  show G K z (mO10 I N (xs (i + 1))).1 P O c n 938 _ [.int (mO10 I N (xs (i + 1))).2]
  refine g_istore (pc' := 940) C dL_law_938 rfl rfl ?_
  refine g_aload_n (pc' := 941) C dL_law_940 rfl rfl ?_
  refine g_callV (pc' := 944) (k := 12) (i := 0) (As := []) C cv_L_87 (m_X4_thrown) dL_law_941 rfl rfl rfl ⟨rfl, by decide +kernel, by decide +kernel, (by decide +kernel : (parseMethodDescriptor yX4_thrown.desc).map (fun d => d.parameters.length) = some 0)⟩ ⟨⟨Nat.le_of_ble_eq_true rfl, Nat.le_of_ble_eq_true rfl⟩, rfl, rfl⟩ rfl (Nat.le_of_ble_eq_true rfl) ⟨by show c ≤ 601024; omega, by show n ≤ 7293034; omega⟩ rfl (fun v1 I2 P2 q => ?_)
  obtain ⟨q1, q2, q3⟩ := q
  rw [q1, q2, q3]
  show G K z (mO10 I N (xs (i + 1))).1 P O c n 944 _ [.int ((mO10 I N (xs (i + 1))).1 12 0 0)]
  refine g_iload (pc' := 946) C dL_law_944 rfl rfl ?_
  refine g_icmp_eq (tgt := 951) (pc' := 949) C dL_law_946 (by decide) rfl (fun _ => ?_) (fun h => absurd hth h)
  refine g_iload (pc' := 953) C dL_law_951 rfl rfl ?_
  refine g_if_ne (tgt := 968) (pc' := 956) C dL_law_953 (by decide) rfl (fun _ => ?_) (fun hk => ?_)
  · refine g_goto (tgt := 1516) C dL_law_968 (by decide) ?_
    exact G_pick [0, 1, 2, 3, 4] rfl next
  · refine g_aload_n (pc' := 957) C dL_law_956 rfl rfl ?_
    refine g_iconst (v := 0) (pc' := 958) C dL_law_957 (by decide) rfl ?_
    refine g_lald (pc' := 959) C dL_law_958 rfl ?_
    refine g_iload (pc' := 961) C dL_law_959 rfl rfl ?_
    refine g_i2l (pc' := 962) C dL_law_961 rfl ?_
    refine g_lcmp (pc' := 963) C dL_law_962 rfl ?_
    refine g_if_eq (tgt := 968) (pc' := 966) C dL_law_963 (by decide) rfl (fun _ => ?_) (fun h => absurd (by rw [hr hk]; exact lg_self _) h)
    refine g_goto (tgt := 1516) C dL_law_968 (by decide) ?_
    exact G_pick [0, 1, 2, 3, 4] rfl next
set_option maxRecDepth 20000 in
theorem t_notice {K : wK} {z : wZ} {I : wI} {P : wP} {O : wO} {c n b Ln i M N nw : Nat} {xs : Nat → Int32} {k : Int32} (C : Cx K cL_law RL 7 (some .boolean) room_1 z) (hX : SX K b Ln xs) (hLn : Ln ≤ 3072) (hi : i + 6 ≤ Ln) (hc : c ≤ 601024) (hn : n ≤ 7293034) (X : MI M N I) (hnow : I 12 0 1 = nI nw) (hnw : nw ≤ 1000) (hth : (mO11 I N (xs (i + 1)) (xs (i + 2))).1 12 0 0 = k) (hr : k = 0 → O 0 = if (mO11 I N (xs (i + 1)) (xs (i + 2))).2 = 0 then 0 else 1) (next : G K z (mO11 I N (xs (i + 1)) (xs (i + 2))).1 P O c n 1516 [(0, .ref b), (1, .ref ((Kg K).2.2 0 0)), (2, .ref ((Kg K).2.2 12 0)), (3, .ref ((Kg K).2.2 14 0)), (4, .int (nI i))] []) : G K z I P O c n 988 [(0, .ref b), (1, .ref ((Kg K).2.2 0 0)), (2, .ref ((Kg K).2.2 12 0)), (3, .ref ((Kg K).2.2 14 0)), (4, .int (nI i))] [.int k] := by
  refine g_istore (pc' := 990) C dL_law_988 rfl rfl ?_
  refine g_aload_n (pc' := 991) C dL_law_990 rfl rfl ?_
  refine g_aload_n (pc' := 992) C dL_law_991 rfl rfl ?_
  refine g_iload (pc' := 994) C dL_law_992 rfl rfl ?_
  refine g_iconst (v := 1) (pc' := 995) C dL_law_994 (by decide) rfl ?_
  refine g_iadd (pc' := 996) C dL_law_995 rfl ?_
  refine g_sld (pc' := 997) C hX (i + 1) (nI_add i 1) (by omega) (by omega) dL_law_996 rfl ?_
  refine g_aload_n (pc' := 998) C dL_law_997 rfl rfl ?_
  refine g_iload (pc' := 1000) C dL_law_998 rfl rfl ?_
  refine g_iconst (v := 2) (pc' := 1001) C dL_law_1000 (by decide) rfl ?_
  refine g_iadd (pc' := 1002) C dL_law_1001 rfl ?_
  refine g_sld (pc' := 1003) C hX (i + 2) (nI_add i 2) (by omega) (by omega) dL_law_1002 rfl ?_
  refine g_callV (pc' := 1006) (k := 12) (i := 0) (As := [.int (xs (i + 1)), .int (xs (i + 2))]) C cv_L_128 (m_X4_notice X) dL_law_1003 rfl rfl rfl ⟨rfl, by decide +kernel, by decide +kernel, (by decide +kernel : (parseMethodDescriptor yX4_notice.desc).map (fun d => d.parameters.length) = some 2)⟩ ⟨⟨Nat.le_of_ble_eq_true rfl, Nat.le_of_ble_eq_true rfl⟩, rfl, rfl⟩ rfl (Nat.le_of_ble_eq_true rfl) ⟨by show c ≤ 601024; omega, by show n ≤ 7293034; omega⟩ rfl (fun v1 I2 P2 q => ?_)
  obtain ⟨q1, q2, q3⟩ := q
  rw [q1, q2, q3]
  show G K z (mO11 I N (xs (i + 1)) (xs (i + 2))).1 P O c n 1006 _ [.int (mO11 I N (xs (i + 1)) (xs (i + 2))).2]
  refine g_istore (pc' := 1008) C dL_law_1006 rfl rfl ?_
  refine g_aload_n (pc' := 1009) C dL_law_1008 rfl rfl ?_
  refine g_callV (pc' := 1012) (k := 12) (i := 0) (As := []) C cv_L_87 (m_X4_thrown) dL_law_1009 rfl rfl rfl ⟨rfl, by decide +kernel, by decide +kernel, (by decide +kernel : (parseMethodDescriptor yX4_thrown.desc).map (fun d => d.parameters.length) = some 0)⟩ ⟨⟨Nat.le_of_ble_eq_true rfl, Nat.le_of_ble_eq_true rfl⟩, rfl, rfl⟩ rfl (Nat.le_of_ble_eq_true rfl) ⟨by show c ≤ 601024; omega, by show n ≤ 7293034; omega⟩ rfl (fun v1 I2 P2 q => ?_)
  obtain ⟨q1, q2, q3⟩ := q
  rw [q1, q2, q3]
  show G K z (mO11 I N (xs (i + 1)) (xs (i + 2))).1 P O c n 1012 _ [.int ((mO11 I N (xs (i + 1)) (xs (i + 2))).1 12 0 0)]
  refine g_iload (pc' := 1014) C dL_law_1012 rfl rfl ?_
  refine g_icmp_eq (tgt := 1019) (pc' := 1017) C dL_law_1014 (by decide) rfl (fun _ => ?_) (fun h => absurd hth h)
  refine g_iload (pc' := 1021) C dL_law_1019 rfl rfl ?_
  refine g_if_ne (tgt := 1043) (pc' := 1024) C dL_law_1021 (by decide) rfl (fun _ => ?_) (fun hk => ?_)
  · refine g_goto (tgt := 1516) C dL_law_1043 (by decide) ?_
    exact G_pick [0, 1, 2, 3, 4] rfl next
  · refine g_aload_n (pc' := 1025) C dL_law_1024 rfl rfl ?_
    refine g_iconst (v := 0) (pc' := 1026) C dL_law_1025 (by decide) rfl ?_
    refine g_lald (pc' := 1027) C dL_law_1026 rfl ?_
    refine g_iload (pc' := 1029) C dL_law_1027 rfl rfl ?_
    refine g_if_eq (tgt := 1036) (pc' := 1032) C dL_law_1029 (by decide) rfl (fun hb => ?_) (fun hb => ?_)
    · refine g_lconst (v := 0) (pc' := 1037) C dL_law_1036 (by decide) rfl ?_
      refine g_lcmp (pc' := 1038) C dL_law_1037 rfl ?_
      refine g_if_eq (tgt := 1043) (pc' := 1041) C dL_law_1038 (by decide) rfl (fun _ => ?_) (fun h => absurd (by rw [hr hk, if_pos hb]; exact lg_self _) h)
      refine g_goto (tgt := 1516) C dL_law_1043 (by decide) ?_
      exact G_pick [0, 1, 2, 3, 4] rfl next
    · refine g_lconst (v := 1) (pc' := 1033) C dL_law_1032 (by decide) rfl ?_
      refine g_goto (tgt := 1037) C dL_law_1033 (by decide) ?_
      refine g_lcmp (pc' := 1038) C dL_law_1037 rfl ?_
      refine g_if_eq (tgt := 1043) (pc' := 1041) C dL_law_1038 (by decide) rfl (fun _ => ?_) (fun h => absurd (by rw [hr hk, if_neg hb]; exact lg_self _) h)
      refine g_goto (tgt := 1516) C dL_law_1043 (by decide) ?_
      exact G_pick [0, 1, 2, 3, 4] rfl next
set_option maxRecDepth 20000 in
theorem t_pass {K : wK} {z : wZ} {I : wI} {P : wP} {O : wO} {c n b Ln i M N nw : Nat} {xs : Nat → Int32} {k : Int32} (C : Cx K cL_law RL 7 (some .boolean) room_1 z) (hX : SX K b Ln xs) (hLn : Ln ≤ 3072) (hi : i + 6 ≤ Ln) (hc : c ≤ 601024) (hn : n ≤ 7293034) (X : MI M N I) (hnow : I 12 0 1 = nI nw) (hnw : nw ≤ 1000) (hth : (mO12 I M N (xs (i + 1))).1 12 0 0 = k) (hr : k = 0 → O 0 = (mO12 I M N (xs (i + 1))).2.toInt64) (next : G K z (mO12 I M N (xs (i + 1))).1 P O c n 1516 [(0, .ref b), (1, .ref ((Kg K).2.2 0 0)), (2, .ref ((Kg K).2.2 12 0)), (3, .ref ((Kg K).2.2 14 0)), (4, .int (nI i))] []) : G K z I P O c n 1057 [(0, .ref b), (1, .ref ((Kg K).2.2 0 0)), (2, .ref ((Kg K).2.2 12 0)), (3, .ref ((Kg K).2.2 14 0)), (4, .int (nI i))] [.int k] := by
  refine g_istore (pc' := 1059) C dL_law_1057 rfl rfl ?_
  refine g_aload_n (pc' := 1060) C dL_law_1059 rfl rfl ?_
  refine g_aload_n (pc' := 1061) C dL_law_1060 rfl rfl ?_
  refine g_iload (pc' := 1063) C dL_law_1061 rfl rfl ?_
  refine g_iconst (v := 1) (pc' := 1064) C dL_law_1063 (by decide) rfl ?_
  refine g_iadd (pc' := 1065) C dL_law_1064 rfl ?_
  refine g_sld (pc' := 1066) C hX (i + 1) (nI_add i 1) (by omega) (by omega) dL_law_1065 rfl ?_
  refine g_callV (pc' := 1069) (k := 12) (i := 0) (As := [.int (xs (i + 1))]) C cv_L_131 (m_X4_pass X) dL_law_1066 rfl rfl rfl ⟨rfl, by decide +kernel, by decide +kernel, (by decide +kernel : (parseMethodDescriptor yX4_pass.desc).map (fun d => d.parameters.length) = some 1)⟩ ⟨⟨Nat.le_of_ble_eq_true rfl, Nat.le_of_ble_eq_true rfl⟩, rfl, rfl⟩ rfl (Nat.le_of_ble_eq_true rfl) ⟨by show c ≤ 601024; omega, by show n ≤ 7293034; omega⟩ rfl (fun v1 I2 P2 q => ?_)
  obtain ⟨q1, q2, q3⟩ := q
  rw [q1, q2, q3]
  show G K z (mO12 I M N (xs (i + 1))).1 P O c n 1069 _ [.int (mO12 I M N (xs (i + 1))).2]
  refine g_istore (pc' := 1071) C dL_law_1069 rfl rfl ?_
  refine g_aload_n (pc' := 1072) C dL_law_1071 rfl rfl ?_
  refine g_callV (pc' := 1075) (k := 12) (i := 0) (As := []) C cv_L_87 (m_X4_thrown) dL_law_1072 rfl rfl rfl ⟨rfl, by decide +kernel, by decide +kernel, (by decide +kernel : (parseMethodDescriptor yX4_thrown.desc).map (fun d => d.parameters.length) = some 0)⟩ ⟨⟨Nat.le_of_ble_eq_true rfl, Nat.le_of_ble_eq_true rfl⟩, rfl, rfl⟩ rfl (Nat.le_of_ble_eq_true rfl) ⟨by show c ≤ 601024; omega, by show n ≤ 7293034; omega⟩ rfl (fun v1 I2 P2 q => ?_)
  obtain ⟨q1, q2, q3⟩ := q
  rw [q1, q2, q3]
  show G K z (mO12 I M N (xs (i + 1))).1 P O c n 1075 _ [.int ((mO12 I M N (xs (i + 1))).1 12 0 0)]
  refine g_iload (pc' := 1077) C dL_law_1075 rfl rfl ?_
  refine g_icmp_eq (tgt := 1082) (pc' := 1080) C dL_law_1077 (by decide) rfl (fun _ => ?_) (fun h => absurd hth h)
  refine g_iload (pc' := 1084) C dL_law_1082 rfl rfl ?_
  refine g_if_ne (tgt := 1099) (pc' := 1087) C dL_law_1084 (by decide) rfl (fun _ => ?_) (fun hk => ?_)
  · refine g_goto (tgt := 1516) C dL_law_1099 (by decide) ?_
    exact G_pick [0, 1, 2, 3, 4] rfl next
  · refine g_aload_n (pc' := 1088) C dL_law_1087 rfl rfl ?_
    refine g_iconst (v := 0) (pc' := 1089) C dL_law_1088 (by decide) rfl ?_
    refine g_lald (pc' := 1090) C dL_law_1089 rfl ?_
    refine g_iload (pc' := 1092) C dL_law_1090 rfl rfl ?_
    refine g_i2l (pc' := 1093) C dL_law_1092 rfl ?_
    refine g_lcmp (pc' := 1094) C dL_law_1093 rfl ?_
    refine g_if_eq (tgt := 1099) (pc' := 1097) C dL_law_1094 (by decide) rfl (fun _ => ?_) (fun h => absurd (by rw [hr hk]; exact lg_self _) h)
    refine g_goto (tgt := 1516) C dL_law_1099 (by decide) ?_
    exact G_pick [0, 1, 2, 3, 4] rfl next
set_option maxRecDepth 20000 in
theorem t_clash {K : wK} {z : wZ} {I : wI} {P : wP} {O : wO} {c n b Ln i M N nw : Nat} {xs : Nat → Int32} {k : Int32} (C : Cx K cL_law RL 7 (some .boolean) room_1 z) (hX : SX K b Ln xs) (hLn : Ln ≤ 3072) (hi : i + 6 ≤ Ln) (hc : c ≤ 601024) (hn : n ≤ 7293034) (X : MI M N I) (hnow : I 12 0 1 = nI nw) (hnw : nw ≤ 1000) (hth : (mO13 I M N (xs (i + 1)) (xs (i + 2)) (xs (i + 3)) (xs (i + 4)) (xs (i + 5))).1 12 0 0 = k) (hr : k = 0 → O 0 = (mO13 I M N (xs (i + 1)) (xs (i + 2)) (xs (i + 3)) (xs (i + 4)) (xs (i + 5))).2.toInt64) (next : G K z (mO13 I M N (xs (i + 1)) (xs (i + 2)) (xs (i + 3)) (xs (i + 4)) (xs (i + 5))).1 P O c n 1516 [(0, .ref b), (1, .ref ((Kg K).2.2 0 0)), (2, .ref ((Kg K).2.2 12 0)), (3, .ref ((Kg K).2.2 14 0)), (4, .int (nI i))] []) : G K z I P O c n 1137 [(0, .ref b), (1, .ref ((Kg K).2.2 0 0)), (2, .ref ((Kg K).2.2 12 0)), (3, .ref ((Kg K).2.2 14 0)), (4, .int (nI i))] [.int k] := by
  refine g_istore (pc' := 1139) C dL_law_1137 rfl rfl ?_
  refine g_aload_n (pc' := 1140) C dL_law_1139 rfl rfl ?_
  refine g_aload_n (pc' := 1141) C dL_law_1140 rfl rfl ?_
  refine g_iload (pc' := 1143) C dL_law_1141 rfl rfl ?_
  refine g_iconst (v := 1) (pc' := 1144) C dL_law_1143 (by decide) rfl ?_
  refine g_iadd (pc' := 1145) C dL_law_1144 rfl ?_
  refine g_sld (pc' := 1146) C hX (i + 1) (nI_add i 1) (by omega) (by omega) dL_law_1145 rfl ?_
  refine g_aload_n (pc' := 1147) C dL_law_1146 rfl rfl ?_
  refine g_iload (pc' := 1149) C dL_law_1147 rfl rfl ?_
  refine g_iconst (v := 2) (pc' := 1150) C dL_law_1149 (by decide) rfl ?_
  refine g_iadd (pc' := 1151) C dL_law_1150 rfl ?_
  refine g_sld (pc' := 1152) C hX (i + 2) (nI_add i 2) (by omega) (by omega) dL_law_1151 rfl ?_
  refine g_aload_n (pc' := 1153) C dL_law_1152 rfl rfl ?_
  refine g_iload (pc' := 1155) C dL_law_1153 rfl rfl ?_
  refine g_iconst (v := 3) (pc' := 1156) C dL_law_1155 (by decide) rfl ?_
  refine g_iadd (pc' := 1157) C dL_law_1156 rfl ?_
  refine g_sld (pc' := 1158) C hX (i + 3) (nI_add i 3) (by omega) (by omega) dL_law_1157 rfl ?_
  refine g_aload_n (pc' := 1159) C dL_law_1158 rfl rfl ?_
  refine g_iload (pc' := 1161) C dL_law_1159 rfl rfl ?_
  refine g_iconst (v := 4) (pc' := 1162) C dL_law_1161 (by decide) rfl ?_
  refine g_iadd (pc' := 1163) C dL_law_1162 rfl ?_
  refine g_sld (pc' := 1164) C hX (i + 4) (nI_add i 4) (by omega) (by omega) dL_law_1163 rfl ?_
  refine g_aload_n (pc' := 1165) C dL_law_1164 rfl rfl ?_
  refine g_iload (pc' := 1167) C dL_law_1165 rfl rfl ?_
  refine g_iconst (v := 5) (pc' := 1168) C dL_law_1167 (by decide) rfl ?_
  refine g_iadd (pc' := 1169) C dL_law_1168 rfl ?_
  refine g_sld (pc' := 1170) C hX (i + 5) (nI_add i 5) (by omega) (by omega) dL_law_1169 rfl ?_
  refine g_callV (pc' := 1173) (k := 12) (i := 0) (As := [.int (xs (i + 1)), .int (xs (i + 2)), .int (xs (i + 3)), .int (xs (i + 4)), .int (xs (i + 5))]) C cv_L_134 (m_X4_clash X) dL_law_1170 rfl rfl rfl ⟨rfl, by decide +kernel, by decide +kernel, (by decide +kernel : (parseMethodDescriptor yX4_clash.desc).map (fun d => d.parameters.length) = some 5)⟩ ⟨⟨Nat.le_of_ble_eq_true rfl, Nat.le_of_ble_eq_true rfl⟩, rfl, rfl⟩ rfl (Nat.le_of_ble_eq_true rfl) ⟨by show c ≤ 601024; omega, by show n ≤ 7293034; omega⟩ rfl (fun v1 I2 P2 q => ?_)
  obtain ⟨q1, q2, q3⟩ := q
  rw [q1, q2, q3]
  show G K z (mO13 I M N (xs (i + 1)) (xs (i + 2)) (xs (i + 3)) (xs (i + 4)) (xs (i + 5))).1 P O c n 1173 _ [.int (mO13 I M N (xs (i + 1)) (xs (i + 2)) (xs (i + 3)) (xs (i + 4)) (xs (i + 5))).2]
  refine g_istore (pc' := 1175) C dL_law_1173 rfl rfl ?_
  refine g_aload_n (pc' := 1176) C dL_law_1175 rfl rfl ?_
  refine g_callV (pc' := 1179) (k := 12) (i := 0) (As := []) C cv_L_87 (m_X4_thrown) dL_law_1176 rfl rfl rfl ⟨rfl, by decide +kernel, by decide +kernel, (by decide +kernel : (parseMethodDescriptor yX4_thrown.desc).map (fun d => d.parameters.length) = some 0)⟩ ⟨⟨Nat.le_of_ble_eq_true rfl, Nat.le_of_ble_eq_true rfl⟩, rfl, rfl⟩ rfl (Nat.le_of_ble_eq_true rfl) ⟨by show c ≤ 601024; omega, by show n ≤ 7293034; omega⟩ rfl (fun v1 I2 P2 q => ?_)
  obtain ⟨q1, q2, q3⟩ := q
  rw [q1, q2, q3]
  show G K z (mO13 I M N (xs (i + 1)) (xs (i + 2)) (xs (i + 3)) (xs (i + 4)) (xs (i + 5))).1 P O c n 1179 _ [.int ((mO13 I M N (xs (i + 1)) (xs (i + 2)) (xs (i + 3)) (xs (i + 4)) (xs (i + 5))).1 12 0 0)]
  refine g_iload (pc' := 1181) C dL_law_1179 rfl rfl ?_
  refine g_icmp_eq (tgt := 1186) (pc' := 1184) C dL_law_1181 (by decide) rfl (fun _ => ?_) (fun h => absurd hth h)
  refine g_iload (pc' := 1188) C dL_law_1186 rfl rfl ?_
  refine g_if_ne (tgt := 1203) (pc' := 1191) C dL_law_1188 (by decide) rfl (fun _ => ?_) (fun hk => ?_)
  · refine g_goto (tgt := 1516) C dL_law_1203 (by decide) ?_
    exact G_pick [0, 1, 2, 3, 4] rfl next
  · refine g_aload_n (pc' := 1192) C dL_law_1191 rfl rfl ?_
    refine g_iconst (v := 0) (pc' := 1193) C dL_law_1192 (by decide) rfl ?_
    refine g_lald (pc' := 1194) C dL_law_1193 rfl ?_
    refine g_iload (pc' := 1196) C dL_law_1194 rfl rfl ?_
    refine g_i2l (pc' := 1197) C dL_law_1196 rfl ?_
    refine g_lcmp (pc' := 1198) C dL_law_1197 rfl ?_
    refine g_if_eq (tgt := 1203) (pc' := 1201) C dL_law_1198 (by decide) rfl (fun _ => ?_) (fun h => absurd (by rw [hr hk]; exact lg_self _) h)
    refine g_goto (tgt := 1516) C dL_law_1203 (by decide) ?_
    exact G_pick [0, 1, 2, 3, 4] rfl next
set_option maxRecDepth 20000 in
theorem t_at {K : wK} {z : wZ} {I : wI} {P : wP} {O : wO} {c n b Ln i M N nw : Nat} {xs : Nat → Int32} {k : Int32} (C : Cx K cL_law RL 7 (some .boolean) room_1 z) (hX : SX K b Ln xs) (hLn : Ln ≤ 3072) (hi : i + 6 ≤ Ln) (hc : c ≤ 601024) (hn : n ≤ 7293034) (X : MI M N I) (hnow : I 12 0 1 = nI nw) (hnw : nw ≤ 1000) (hth : (mO14 I N (xs (i + 1)) (xs (i + 2)) (xs (i + 3))).1 12 0 0 = k) (hr : k = 0 → O 0 = (mO14 I N (xs (i + 1)) (xs (i + 2)) (xs (i + 3))).2.toInt64) (next : G K z (mO14 I N (xs (i + 1)) (xs (i + 2)) (xs (i + 3))).1 P O c n 1516 [(0, .ref b), (1, .ref ((Kg K).2.2 0 0)), (2, .ref ((Kg K).2.2 12 0)), (3, .ref ((Kg K).2.2 14 0)), (4, .int (nI i))] []) : G K z I P O c n 1229 [(0, .ref b), (1, .ref ((Kg K).2.2 0 0)), (2, .ref ((Kg K).2.2 12 0)), (3, .ref ((Kg K).2.2 14 0)), (4, .int (nI i))] [.int k] := by
  refine g_istore (pc' := 1231) C dL_law_1229 rfl rfl ?_
  refine g_aload_n (pc' := 1232) C dL_law_1231 rfl rfl ?_
  refine g_aload_n (pc' := 1233) C dL_law_1232 rfl rfl ?_
  refine g_iload (pc' := 1235) C dL_law_1233 rfl rfl ?_
  refine g_iconst (v := 1) (pc' := 1236) C dL_law_1235 (by decide) rfl ?_
  refine g_iadd (pc' := 1237) C dL_law_1236 rfl ?_
  refine g_sld (pc' := 1238) C hX (i + 1) (nI_add i 1) (by omega) (by omega) dL_law_1237 rfl ?_
  refine g_aload_n (pc' := 1239) C dL_law_1238 rfl rfl ?_
  refine g_iload (pc' := 1241) C dL_law_1239 rfl rfl ?_
  refine g_iconst (v := 2) (pc' := 1242) C dL_law_1241 (by decide) rfl ?_
  refine g_iadd (pc' := 1243) C dL_law_1242 rfl ?_
  refine g_sld (pc' := 1244) C hX (i + 2) (nI_add i 2) (by omega) (by omega) dL_law_1243 rfl ?_
  refine g_aload_n (pc' := 1245) C dL_law_1244 rfl rfl ?_
  refine g_iload (pc' := 1247) C dL_law_1245 rfl rfl ?_
  refine g_iconst (v := 3) (pc' := 1248) C dL_law_1247 (by decide) rfl ?_
  refine g_iadd (pc' := 1249) C dL_law_1248 rfl ?_
  refine g_sld (pc' := 1250) C hX (i + 3) (nI_add i 3) (by omega) (by omega) dL_law_1249 rfl ?_
  refine g_callV (pc' := 1253) (k := 12) (i := 0) (As := [.int (xs (i + 1)), .int (xs (i + 2)), .int (xs (i + 3))]) C cv_L_137 (m_X4_at X) dL_law_1250 rfl rfl rfl ⟨rfl, by decide +kernel, by decide +kernel, (by decide +kernel : (parseMethodDescriptor yX4_at.desc).map (fun d => d.parameters.length) = some 3)⟩ ⟨⟨Nat.le_of_ble_eq_true rfl, Nat.le_of_ble_eq_true rfl⟩, rfl, rfl⟩ rfl (Nat.le_of_ble_eq_true rfl) ⟨by show c ≤ 601024; omega, by show n ≤ 7293034; omega⟩ rfl (fun v1 I2 P2 q => ?_)
  obtain ⟨q1, q2, q3⟩ := q
  rw [q1, q2, q3]
  show G K z (mO14 I N (xs (i + 1)) (xs (i + 2)) (xs (i + 3))).1 P O c n 1253 _ [.int (mO14 I N (xs (i + 1)) (xs (i + 2)) (xs (i + 3))).2]
  refine g_istore (pc' := 1255) C dL_law_1253 rfl rfl ?_
  refine g_aload_n (pc' := 1256) C dL_law_1255 rfl rfl ?_
  refine g_callV (pc' := 1259) (k := 12) (i := 0) (As := []) C cv_L_87 (m_X4_thrown) dL_law_1256 rfl rfl rfl ⟨rfl, by decide +kernel, by decide +kernel, (by decide +kernel : (parseMethodDescriptor yX4_thrown.desc).map (fun d => d.parameters.length) = some 0)⟩ ⟨⟨Nat.le_of_ble_eq_true rfl, Nat.le_of_ble_eq_true rfl⟩, rfl, rfl⟩ rfl (Nat.le_of_ble_eq_true rfl) ⟨by show c ≤ 601024; omega, by show n ≤ 7293034; omega⟩ rfl (fun v1 I2 P2 q => ?_)
  obtain ⟨q1, q2, q3⟩ := q
  rw [q1, q2, q3]
  show G K z (mO14 I N (xs (i + 1)) (xs (i + 2)) (xs (i + 3))).1 P O c n 1259 _ [.int ((mO14 I N (xs (i + 1)) (xs (i + 2)) (xs (i + 3))).1 12 0 0)]
  refine g_iload (pc' := 1261) C dL_law_1259 rfl rfl ?_
  refine g_icmp_eq (tgt := 1266) (pc' := 1264) C dL_law_1261 (by decide) rfl (fun _ => ?_) (fun h => absurd hth h)
  refine g_iload (pc' := 1268) C dL_law_1266 rfl rfl ?_
  refine g_if_ne (tgt := 1283) (pc' := 1271) C dL_law_1268 (by decide) rfl (fun _ => ?_) (fun hk => ?_)
  · refine g_goto (tgt := 1516) C dL_law_1283 (by decide) ?_
    exact G_pick [0, 1, 2, 3, 4] rfl next
  · refine g_aload_n (pc' := 1272) C dL_law_1271 rfl rfl ?_
    refine g_iconst (v := 0) (pc' := 1273) C dL_law_1272 (by decide) rfl ?_
    refine g_lald (pc' := 1274) C dL_law_1273 rfl ?_
    refine g_iload (pc' := 1276) C dL_law_1274 rfl rfl ?_
    refine g_i2l (pc' := 1277) C dL_law_1276 rfl ?_
    refine g_lcmp (pc' := 1278) C dL_law_1277 rfl ?_
    refine g_if_eq (tgt := 1283) (pc' := 1281) C dL_law_1278 (by decide) rfl (fun _ => ?_) (fun h => absurd (by rw [hr hk]; exact lg_self _) h)
    refine g_goto (tgt := 1516) C dL_law_1283 (by decide) ?_
    exact G_pick [0, 1, 2, 3, 4] rfl next
set_option maxRecDepth 20000 in
theorem t_about {K : wK} {z : wZ} {I : wI} {P : wP} {O : wO} {c n b Ln i M N nw : Nat} {xs : Nat → Int32} {k : Int32} (C : Cx K cL_law RL 7 (some .boolean) room_1 z) (hX : SX K b Ln xs) (hLn : Ln ≤ 3072) (hi : i + 6 ≤ Ln) (hc : c ≤ 601024) (hn : n ≤ 7293034) (X : MI M N I) (hnow : I 12 0 1 = nI nw) (hnw : nw ≤ 1000) (hth : (mO15 I M nw (xs (i + 1)) (xs (i + 2))).1 12 0 0 = k) (hr : k = 0 → O 0 = (mO15 I M nw (xs (i + 1)) (xs (i + 2))).2.toInt64) (next : G K z (mO15 I M nw (xs (i + 1)) (xs (i + 2))).1 P O c n 1516 [(0, .ref b), (1, .ref ((Kg K).2.2 0 0)), (2, .ref ((Kg K).2.2 12 0)), (3, .ref ((Kg K).2.2 14 0)), (4, .int (nI i))] []) : G K z I P O c n 1303 [(0, .ref b), (1, .ref ((Kg K).2.2 0 0)), (2, .ref ((Kg K).2.2 12 0)), (3, .ref ((Kg K).2.2 14 0)), (4, .int (nI i))] [.int k] := by
  refine g_istore (pc' := 1305) C dL_law_1303 rfl rfl ?_
  refine g_aload_n (pc' := 1306) C dL_law_1305 rfl rfl ?_
  refine g_aload_n (pc' := 1307) C dL_law_1306 rfl rfl ?_
  refine g_iload (pc' := 1309) C dL_law_1307 rfl rfl ?_
  refine g_iconst (v := 1) (pc' := 1310) C dL_law_1309 (by decide) rfl ?_
  refine g_iadd (pc' := 1311) C dL_law_1310 rfl ?_
  refine g_sld (pc' := 1312) C hX (i + 1) (nI_add i 1) (by omega) (by omega) dL_law_1311 rfl ?_
  refine g_aload_n (pc' := 1313) C dL_law_1312 rfl rfl ?_
  refine g_iload (pc' := 1315) C dL_law_1313 rfl rfl ?_
  refine g_iconst (v := 2) (pc' := 1316) C dL_law_1315 (by decide) rfl ?_
  refine g_iadd (pc' := 1317) C dL_law_1316 rfl ?_
  refine g_sld (pc' := 1318) C hX (i + 2) (nI_add i 2) (by omega) (by omega) dL_law_1317 rfl ?_
  refine g_callV (pc' := 1321) (k := 12) (i := 0) (As := [.int (xs (i + 1)), .int (xs (i + 2))]) C cv_L_140 (m_X4_about X hnow hnw) dL_law_1318 rfl rfl rfl ⟨rfl, by decide +kernel, by decide +kernel, (by decide +kernel : (parseMethodDescriptor yX4_about.desc).map (fun d => d.parameters.length) = some 2)⟩ ⟨⟨Nat.le_of_ble_eq_true rfl, Nat.le_of_ble_eq_true rfl⟩, rfl, rfl⟩ rfl (Nat.le_of_ble_eq_true rfl) ⟨by show c ≤ 601024; omega, by show n ≤ 7293034; omega⟩ rfl (fun v1 I2 P2 q => ?_)
  obtain ⟨q1, q2, q3⟩ := q
  rw [q1, q2, q3]
  show G K z (mO15 I M nw (xs (i + 1)) (xs (i + 2))).1 P O c n 1321 _ [.int (mO15 I M nw (xs (i + 1)) (xs (i + 2))).2]
  refine g_istore (pc' := 1323) C dL_law_1321 rfl rfl ?_
  refine g_aload_n (pc' := 1324) C dL_law_1323 rfl rfl ?_
  refine g_callV (pc' := 1327) (k := 12) (i := 0) (As := []) C cv_L_87 (m_X4_thrown) dL_law_1324 rfl rfl rfl ⟨rfl, by decide +kernel, by decide +kernel, (by decide +kernel : (parseMethodDescriptor yX4_thrown.desc).map (fun d => d.parameters.length) = some 0)⟩ ⟨⟨Nat.le_of_ble_eq_true rfl, Nat.le_of_ble_eq_true rfl⟩, rfl, rfl⟩ rfl (Nat.le_of_ble_eq_true rfl) ⟨by show c ≤ 601024; omega, by show n ≤ 7293034; omega⟩ rfl (fun v1 I2 P2 q => ?_)
  obtain ⟨q1, q2, q3⟩ := q
  rw [q1, q2, q3]
  show G K z (mO15 I M nw (xs (i + 1)) (xs (i + 2))).1 P O c n 1327 _ [.int ((mO15 I M nw (xs (i + 1)) (xs (i + 2))).1 12 0 0)]
  refine g_iload (pc' := 1329) C dL_law_1327 rfl rfl ?_
  refine g_icmp_eq (tgt := 1334) (pc' := 1332) C dL_law_1329 (by decide) rfl (fun _ => ?_) (fun h => absurd hth h)
  refine g_iload (pc' := 1336) C dL_law_1334 rfl rfl ?_
  refine g_if_ne (tgt := 1351) (pc' := 1339) C dL_law_1336 (by decide) rfl (fun _ => ?_) (fun hk => ?_)
  · refine g_goto (tgt := 1516) C dL_law_1351 (by decide) ?_
    exact G_pick [0, 1, 2, 3, 4] rfl next
  · refine g_aload_n (pc' := 1340) C dL_law_1339 rfl rfl ?_
    refine g_iconst (v := 0) (pc' := 1341) C dL_law_1340 (by decide) rfl ?_
    refine g_lald (pc' := 1342) C dL_law_1341 rfl ?_
    refine g_iload (pc' := 1344) C dL_law_1342 rfl rfl ?_
    refine g_i2l (pc' := 1345) C dL_law_1344 rfl ?_
    refine g_lcmp (pc' := 1346) C dL_law_1345 rfl ?_
    refine g_if_eq (tgt := 1351) (pc' := 1349) C dL_law_1346 (by decide) rfl (fun _ => ?_) (fun h => absurd (by rw [hr hk]; exact lg_self _) h)
    refine g_goto (tgt := 1516) C dL_law_1351 (by decide) ?_
    exact G_pick [0, 1, 2, 3, 4] rfl next
set_option maxRecDepth 20000 in
theorem t_hearing {K : wK} {z : wZ} {I : wI} {P : wP} {O : wO} {c n b Ln i M N nw : Nat} {xs : Nat → Int32} {k : Int32} (C : Cx K cL_law RL 7 (some .boolean) room_1 z) (hX : SX K b Ln xs) (hLn : Ln ≤ 3072) (hi : i + 6 ≤ Ln) (hc : c ≤ 601024) (hn : n ≤ 7293034) (X : MI M N I) (hnow : I 12 0 1 = nI nw) (hnw : nw ≤ 1000) (hth : (mO16 I N (xs (i + 1)) (xs (i + 2))).1 12 0 0 = k) (hr : k = 0 → O 0 = (mO16 I N (xs (i + 1)) (xs (i + 2))).2.toInt64) (next : G K z (mO16 I N (xs (i + 1)) (xs (i + 2))).1 P O c n 1516 [(0, .ref b), (1, .ref ((Kg K).2.2 0 0)), (2, .ref ((Kg K).2.2 12 0)), (3, .ref ((Kg K).2.2 14 0)), (4, .int (nI i))] []) : G K z I P O c n 1371 [(0, .ref b), (1, .ref ((Kg K).2.2 0 0)), (2, .ref ((Kg K).2.2 12 0)), (3, .ref ((Kg K).2.2 14 0)), (4, .int (nI i))] [.int k] := by
  refine g_istore (pc' := 1373) C dL_law_1371 rfl rfl ?_
  refine g_aload_n (pc' := 1374) C dL_law_1373 rfl rfl ?_
  refine g_aload_n (pc' := 1375) C dL_law_1374 rfl rfl ?_
  refine g_iload (pc' := 1377) C dL_law_1375 rfl rfl ?_
  refine g_iconst (v := 1) (pc' := 1378) C dL_law_1377 (by decide) rfl ?_
  refine g_iadd (pc' := 1379) C dL_law_1378 rfl ?_
  refine g_sld (pc' := 1380) C hX (i + 1) (nI_add i 1) (by omega) (by omega) dL_law_1379 rfl ?_
  refine g_aload_n (pc' := 1381) C dL_law_1380 rfl rfl ?_
  refine g_iload (pc' := 1383) C dL_law_1381 rfl rfl ?_
  refine g_iconst (v := 2) (pc' := 1384) C dL_law_1383 (by decide) rfl ?_
  refine g_iadd (pc' := 1385) C dL_law_1384 rfl ?_
  refine g_sld (pc' := 1386) C hX (i + 2) (nI_add i 2) (by omega) (by omega) dL_law_1385 rfl ?_
  refine g_callV (pc' := 1389) (k := 12) (i := 0) (As := [.int (xs (i + 1)), .int (xs (i + 2))]) C cv_L_143 (m_X4_hearing X) dL_law_1386 rfl rfl rfl ⟨rfl, by decide +kernel, by decide +kernel, (by decide +kernel : (parseMethodDescriptor yX4_hearing.desc).map (fun d => d.parameters.length) = some 2)⟩ ⟨⟨Nat.le_of_ble_eq_true rfl, Nat.le_of_ble_eq_true rfl⟩, rfl, rfl⟩ rfl (Nat.le_of_ble_eq_true rfl) ⟨by show c ≤ 601024; omega, by show n ≤ 7293034; omega⟩ rfl (fun v1 I2 P2 q => ?_)
  obtain ⟨q1, q2, q3⟩ := q
  rw [q1, q2, q3]
  show G K z (mO16 I N (xs (i + 1)) (xs (i + 2))).1 P O c n 1389 _ [.int (mO16 I N (xs (i + 1)) (xs (i + 2))).2]
  refine g_istore (pc' := 1391) C dL_law_1389 rfl rfl ?_
  refine g_aload_n (pc' := 1392) C dL_law_1391 rfl rfl ?_
  refine g_callV (pc' := 1395) (k := 12) (i := 0) (As := []) C cv_L_87 (m_X4_thrown) dL_law_1392 rfl rfl rfl ⟨rfl, by decide +kernel, by decide +kernel, (by decide +kernel : (parseMethodDescriptor yX4_thrown.desc).map (fun d => d.parameters.length) = some 0)⟩ ⟨⟨Nat.le_of_ble_eq_true rfl, Nat.le_of_ble_eq_true rfl⟩, rfl, rfl⟩ rfl (Nat.le_of_ble_eq_true rfl) ⟨by show c ≤ 601024; omega, by show n ≤ 7293034; omega⟩ rfl (fun v1 I2 P2 q => ?_)
  obtain ⟨q1, q2, q3⟩ := q
  rw [q1, q2, q3]
  show G K z (mO16 I N (xs (i + 1)) (xs (i + 2))).1 P O c n 1395 _ [.int ((mO16 I N (xs (i + 1)) (xs (i + 2))).1 12 0 0)]
  refine g_iload (pc' := 1397) C dL_law_1395 rfl rfl ?_
  refine g_icmp_eq (tgt := 1402) (pc' := 1400) C dL_law_1397 (by decide) rfl (fun _ => ?_) (fun h => absurd hth h)
  refine g_iload (pc' := 1404) C dL_law_1402 rfl rfl ?_
  refine g_if_ne (tgt := 1419) (pc' := 1407) C dL_law_1404 (by decide) rfl (fun _ => ?_) (fun hk => ?_)
  · refine g_goto (tgt := 1516) C dL_law_1419 (by decide) ?_
    exact G_pick [0, 1, 2, 3, 4] rfl next
  · refine g_aload_n (pc' := 1408) C dL_law_1407 rfl rfl ?_
    refine g_iconst (v := 0) (pc' := 1409) C dL_law_1408 (by decide) rfl ?_
    refine g_lald (pc' := 1410) C dL_law_1409 rfl ?_
    refine g_iload (pc' := 1412) C dL_law_1410 rfl rfl ?_
    refine g_i2l (pc' := 1413) C dL_law_1412 rfl ?_
    refine g_lcmp (pc' := 1414) C dL_law_1413 rfl ?_
    refine g_if_eq (tgt := 1419) (pc' := 1417) C dL_law_1414 (by decide) rfl (fun _ => ?_) (fun h => absurd (by rw [hr hk]; exact lg_self _) h)
    refine g_goto (tgt := 1516) C dL_law_1419 (by decide) ?_
    exact G_pick [0, 1, 2, 3, 4] rfl next
set_option maxRecDepth 20000 in
theorem t_paidBy {K : wK} {z : wZ} {I : wI} {P : wP} {O : wO} {c n b Ln i M N nw : Nat} {xs : Nat → Int32} {k : Int32} (C : Cx K cL_law RL 7 (some .boolean) room_1 z) (hX : SX K b Ln xs) (hLn : Ln ≤ 3072) (hi : i + 6 ≤ Ln) (hc : c ≤ 601024) (hn : n ≤ 7293034) (X : MI M N I) (hnow : I 12 0 1 = nI nw) (hnw : nw ≤ 1000) (hth : (mO17 I (xs (i + 1)) (xs (i + 2))).1 12 0 0 = k) (hr : k = 0 → O 0 = (mO17 I (xs (i + 1)) (xs (i + 2))).2.toInt64) (next : G K z (mO17 I (xs (i + 1)) (xs (i + 2))).1 P O c n 1516 [(0, .ref b), (1, .ref ((Kg K).2.2 0 0)), (2, .ref ((Kg K).2.2 12 0)), (3, .ref ((Kg K).2.2 14 0)), (4, .int (nI i))] []) : G K z I P O c n 1439 [(0, .ref b), (1, .ref ((Kg K).2.2 0 0)), (2, .ref ((Kg K).2.2 12 0)), (3, .ref ((Kg K).2.2 14 0)), (4, .int (nI i))] [.int k] := by
  refine g_istore (pc' := 1441) C dL_law_1439 rfl rfl ?_
  refine g_aload_n (pc' := 1442) C dL_law_1441 rfl rfl ?_
  refine g_aload_n (pc' := 1443) C dL_law_1442 rfl rfl ?_
  refine g_iload (pc' := 1445) C dL_law_1443 rfl rfl ?_
  refine g_iconst (v := 1) (pc' := 1446) C dL_law_1445 (by decide) rfl ?_
  refine g_iadd (pc' := 1447) C dL_law_1446 rfl ?_
  refine g_sld (pc' := 1448) C hX (i + 1) (nI_add i 1) (by omega) (by omega) dL_law_1447 rfl ?_
  refine g_aload_n (pc' := 1449) C dL_law_1448 rfl rfl ?_
  refine g_iload (pc' := 1451) C dL_law_1449 rfl rfl ?_
  refine g_iconst (v := 2) (pc' := 1452) C dL_law_1451 (by decide) rfl ?_
  refine g_iadd (pc' := 1453) C dL_law_1452 rfl ?_
  refine g_sld (pc' := 1454) C hX (i + 2) (nI_add i 2) (by omega) (by omega) dL_law_1453 rfl ?_
  refine g_callV (pc' := 1457) (k := 12) (i := 0) (As := [.int (xs (i + 1)), .int (xs (i + 2))]) C cv_L_146 (m_X4_paidBy X) dL_law_1454 rfl rfl rfl ⟨rfl, by decide +kernel, by decide +kernel, (by decide +kernel : (parseMethodDescriptor yX4_paidBy.desc).map (fun d => d.parameters.length) = some 2)⟩ ⟨⟨Nat.le_of_ble_eq_true rfl, Nat.le_of_ble_eq_true rfl⟩, rfl, rfl⟩ rfl (Nat.le_of_ble_eq_true rfl) ⟨by show c ≤ 601024; omega, by show n ≤ 7293034; omega⟩ rfl (fun v1 I2 P2 q => ?_)
  obtain ⟨q1, q2, q3⟩ := q
  rw [q1, q2, q3]
  show G K z (mO17 I (xs (i + 1)) (xs (i + 2))).1 P O c n 1457 _ [.int (mO17 I (xs (i + 1)) (xs (i + 2))).2]
  refine g_istore (pc' := 1459) C dL_law_1457 rfl rfl ?_
  refine g_aload_n (pc' := 1460) C dL_law_1459 rfl rfl ?_
  refine g_callV (pc' := 1463) (k := 12) (i := 0) (As := []) C cv_L_87 (m_X4_thrown) dL_law_1460 rfl rfl rfl ⟨rfl, by decide +kernel, by decide +kernel, (by decide +kernel : (parseMethodDescriptor yX4_thrown.desc).map (fun d => d.parameters.length) = some 0)⟩ ⟨⟨Nat.le_of_ble_eq_true rfl, Nat.le_of_ble_eq_true rfl⟩, rfl, rfl⟩ rfl (Nat.le_of_ble_eq_true rfl) ⟨by show c ≤ 601024; omega, by show n ≤ 7293034; omega⟩ rfl (fun v1 I2 P2 q => ?_)
  obtain ⟨q1, q2, q3⟩ := q
  rw [q1, q2, q3]
  show G K z (mO17 I (xs (i + 1)) (xs (i + 2))).1 P O c n 1463 _ [.int ((mO17 I (xs (i + 1)) (xs (i + 2))).1 12 0 0)]
  refine g_iload (pc' := 1465) C dL_law_1463 rfl rfl ?_
  refine g_icmp_eq (tgt := 1470) (pc' := 1468) C dL_law_1465 (by decide) rfl (fun _ => ?_) (fun h => absurd hth h)
  refine g_iload (pc' := 1472) C dL_law_1470 rfl rfl ?_
  refine g_if_ne (tgt := 1487) (pc' := 1475) C dL_law_1472 (by decide) rfl (fun _ => ?_) (fun hk => ?_)
  · refine g_goto (tgt := 1516) C dL_law_1487 (by decide) ?_
    exact G_pick [0, 1, 2, 3, 4] rfl next
  · refine g_aload_n (pc' := 1476) C dL_law_1475 rfl rfl ?_
    refine g_iconst (v := 0) (pc' := 1477) C dL_law_1476 (by decide) rfl ?_
    refine g_lald (pc' := 1478) C dL_law_1477 rfl ?_
    refine g_iload (pc' := 1480) C dL_law_1478 rfl rfl ?_
    refine g_i2l (pc' := 1481) C dL_law_1480 rfl ?_
    refine g_lcmp (pc' := 1482) C dL_law_1481 rfl ?_
    refine g_if_eq (tgt := 1487) (pc' := 1485) C dL_law_1482 (by decide) rfl (fun _ => ?_) (fun h => absurd (by rw [hr hk]; exact lg_self _) h)
    refine g_goto (tgt := 1516) C dL_law_1487 (by decide) ?_
    exact G_pick [0, 1, 2, 3, 4] rfl next
end WLaw
