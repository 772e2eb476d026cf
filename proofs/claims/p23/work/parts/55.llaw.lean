section WLlaw
/-- the law's own end -/
def KE (K : wK) (pc : Nat) : Prop := ∀ (g' : wG) (z : wZ) (I : wI) (P : wP) (O : wO) (c n : Nat) (L : List (Nat × Value)), c ≤ 645988 → n ≤ 7163735 → G (Kw K g') z I P O c n pc L [.int 1]
theorem KE.up {K : wK} {pc : Nat} (h : KE K pc) (g' : wG) : KE (Kw K g') pc := h
set_option maxRecDepth 20000 in
theorem l_file {K : wK} {z : wZ} {I : wI} {P : wP} {O : wO} {nw : Nat} {J : wI} {b Ln c n : Nat} {xs : Nat → Int32} (hfl : (Kl K).stackTraces = false) (hXK : XK K) (hX : SX K b Ln xs) (C : Cx K cL_law RL 17 (some .boolean) room_1 z) (S : Stt z nw I P J) (hn9 : nw ≤ 900) (hcc : c + 300 ≤ 645988) (hnn : n + 3000 ≤ 7163735) {turn act : Nat} {e v : Int32} (hM : z.1 < 8) (kk : ∀ (g' : wG) (z' : wZ) (nw' : Nat) (I' : wI) (P' : wP) (O' : wO) (c' n' : Nat) (J' : wI), Cx (Kw K g') cL_law RL 17 (some .boolean) room_1 z' → (g'.2.2 0 0 = (Kg K).2.2 0 0 ∧ ∀ i, i < 7 → g'.2.2 13 i = (Kg K).2.2 13 i) → Stt z' nw' I' P' J' → 0 < z'.1 → nw' ≤ 900 → c' ≤ c + 10 → n' ≤ n + 100 → G (Kw K g') z' I' P' O' c' n' 771 [(0, .ref b), (1, .ref ((Kg K).2.2 0 0)), (2, .ref ((Kg K).2.2 13 0)), (3, .ref ((Kg K).2.2 13 1)), (4, .ref ((Kg K).2.2 13 2)), (5, .ref ((Kg K).2.2 13 3)), (6, .ref ((Kg K).2.2 13 4)), (7, .ref ((Kg K).2.2 13 5)), (8, .ref ((Kg K).2.2 13 6)), (9, .int (nI 1)), (10, .int (nI turn)), (11, .int e), (12, .int (nI act)), (13, .int v)] []) : G K z I P O c n 207 [(0, .ref b), (1, .ref ((Kg K).2.2 0 0)), (2, .ref ((Kg K).2.2 13 0)), (3, .ref ((Kg K).2.2 13 1)), (4, .ref ((Kg K).2.2 13 2)), (5, .ref ((Kg K).2.2 13 3)), (6, .ref ((Kg K).2.2 13 4)), (7, .ref ((Kg K).2.2 13 5)), (8, .ref ((Kg K).2.2 13 6)), (9, .int (nI 1)), (10, .int (nI turn)), (11, .int e), (12, .int (nI act)), (13, .int v)] [] := by
  have hN16 := S.y.N16
  have hn930 := S.y.n9
  refine g_bipush (v := nI 8) (pc' := 209) C dL_law_207 (by decide) rfl ?_
  refine g_aload (pc' := 211) C dL_law_209 rfl rfl ?_
  refine g_iconst (v := nI 0) (pc' := 212) C dL_law_211 (by decide) rfl ?_
  refine g_iald (pc' := 213) C (0) rfl (by show 0 < 3; omega) dL_law_212 (al13 rfl) rfl rfl rfl ?_
  rw [S.y.q0]
  refine g_imulN (pc' := 214) C dL_law_213 rfl ?_
  refine g_istore (pc' := 216) C dL_law_214 rfl rfl ?_
  refine g_aload_n (pc' := 217) C dL_law_216 rfl rfl ?_
  refine g_iload (pc' := 219) C dL_law_217 rfl rfl ?_
  refine g_iconst (v := nI 1) (pc' := 220) C dL_law_219 (by decide) rfl ?_
  refine g_iaddN (pc' := 221) C dL_law_220 rfl ?_
  refine g_iload (pc' := 223) C dL_law_221 rfl rfl ?_
  refine g_iconst (v := nI 4) (pc' := 224) C dL_law_223 (by decide) rfl ?_
  refine g_callS (pc' := 227) (As := [.int (v), .int (nI 4)]) (S := [.int (nI (8 * z.1 + 1)), .ref ((Kg K).2.2 13 0)]) C cs_L_65 (w_low (b := 4) (by omega) (by omega)) dL_law_224 ⟨rfl, by decide +kernel, by decide +kernel, (by decide +kernel : (parseMethodDescriptor yL_low.desc).map (fun d => d.parameters.length) = some 2)⟩ ⟨⟨Nat.le_of_ble_eq_true rfl, Nat.le_of_ble_eq_true rfl⟩, rfl, rfl⟩ rfl (Nat.le_of_ble_eq_true rfl) ⟨show _ ≤ 645988 from by omega, show _ ≤ 7163735 from by omega⟩ rfl (fun v1 I1 P1 q => ?_)
  obtain ⟨rfl, q1, q2⟩ := q
  rw [q1, q2]
  obtain ⟨x0, hx0, ex0⟩ : ∃ r, r < 4 ∧ lowN (v) 4 = r := ⟨_, lowN_lt (by omega), rfl⟩
  rw [ex0]
  refine g_iast (pc' := 228) C (8 * z.1 + 1) rfl (by show _ < 64; omega) dL_law_227 (al13 rfl) (fun _ => rfl) rfl rfl ?_
  refine g_aload_n (pc' := 229) C dL_law_228 rfl rfl ?_
  refine g_iload (pc' := 231) C dL_law_229 rfl rfl ?_
  refine g_iconst (v := nI 2) (pc' := 232) C dL_law_231 (by decide) rfl ?_
  refine g_iaddN (pc' := 233) C dL_law_232 rfl ?_
  refine g_iload (pc' := 235) C dL_law_233 rfl rfl ?_
  refine g_iconst (v := nI 2) (pc' := 236) C dL_law_235 (by decide) rfl ?_
  refine g_ishr (pc' := 237) C dL_law_236 rfl ?_
  refine g_bipush (v := nI 6) (pc' := 239) C dL_law_237 (by decide) rfl ?_
  refine g_callS (pc' := 242) (As := [.int (v >>> (nI 2 &&& 31)), .int (nI 6)]) (S := [.int (nI (8 * z.1 + 2)), .ref ((Kg K).2.2 13 0)]) C cs_L_65 (w_low (b := 6) (by omega) (by omega)) dL_law_239 ⟨rfl, by decide +kernel, by decide +kernel, (by decide +kernel : (parseMethodDescriptor yL_low.desc).map (fun d => d.parameters.length) = some 2)⟩ ⟨⟨Nat.le_of_ble_eq_true rfl, Nat.le_of_ble_eq_true rfl⟩, rfl, rfl⟩ rfl (Nat.le_of_ble_eq_true rfl) ⟨show _ ≤ 645988 from by omega, show _ ≤ 7163735 from by omega⟩ rfl (fun v1 I1 P1 q => ?_)
  obtain ⟨rfl, q1, q2⟩ := q
  rw [q1, q2]
  obtain ⟨x1, hx1, ex1⟩ : ∃ r, r < 6 ∧ lowN (v >>> (nI 2 &&& 31)) 6 = r := ⟨_, lowN_lt (by omega), rfl⟩
  rw [ex1]
  refine g_iast (pc' := 243) C (8 * z.1 + 2) rfl (by show _ < 64; omega) dL_law_242 (al13 rfl) (fun _ => rfl) rfl rfl ?_
  refine g_aload_n (pc' := 244) C dL_law_243 rfl rfl ?_
  refine g_iload (pc' := 246) C dL_law_244 rfl rfl ?_
  refine g_iconst (v := nI 3) (pc' := 247) C dL_law_246 (by decide) rfl ?_
  refine g_iaddN (pc' := 248) C dL_law_247 rfl ?_
  refine g_aload_n (pc' := 249) C dL_law_248 rfl rfl ?_
  refine g_iload (pc' := 251) C dL_law_249 rfl rfl ?_
  refine g_iconst (v := nI 2) (pc' := 252) C dL_law_251 (by decide) rfl ?_
  refine g_iaddN (pc' := 253) C dL_law_252 rfl ?_
  have r2 : (upI (upI I 13 0 (8 * z.1 + 1) (nI x0)) 13 0 (8 * z.1 + 2) (nI x1)) 13 0 (8 * z.1 + 2) = nI x1 := by rw [upI_at, if_pos ⟨rfl, rfl, rfl⟩]
  refine g_iald (pc' := 254) C (8 * z.1 + 2) rfl (by show _ < 64; omega) dL_law_253 (al13 rfl) rfl rfl rfl ?_
  rw [r2]
  refine g_iconst (v := nI 1) (pc' := 255) C dL_law_254 (by decide) rfl ?_
  refine g_iaddN (pc' := 256) C dL_law_255 rfl ?_
  refine g_iload (pc' := 258) C dL_law_256 rfl rfl ?_
  refine g_iconst (v := nI 5) (pc' := 259) C dL_law_258 (by decide) rfl ?_
  refine g_ishr (pc' := 260) C dL_law_259 rfl ?_
  refine g_iconst (v := nI 5) (pc' := 261) C dL_law_260 (by decide) rfl ?_
  refine g_callS (pc' := 264) (As := [.int (v >>> (nI 5 &&& 31)), .int (nI 5)]) (S := [.int (nI (x1 + 1)), .int (nI (8 * z.1 + 3)), .ref ((Kg K).2.2 13 0)]) C cs_L_65 (w_low (b := 5) (by omega) (by omega)) dL_law_261 ⟨rfl, by decide +kernel, by decide +kernel, (by decide +kernel : (parseMethodDescriptor yL_low.desc).map (fun d => d.parameters.length) = some 2)⟩ ⟨⟨Nat.le_of_ble_eq_true rfl, Nat.le_of_ble_eq_true rfl⟩, rfl, rfl⟩ rfl (Nat.le_of_ble_eq_true rfl) ⟨show _ ≤ 645988 from by omega, show _ ≤ 7163735 from by omega⟩ rfl (fun v1 I1 P1 q => ?_)
  obtain ⟨rfl, q1, q2⟩ := q
  rw [q1, q2]
  obtain ⟨x2, hx2, ex2⟩ : ∃ r, r < 5 ∧ lowN (v >>> (nI 5 &&& 31)) 5 = r := ⟨_, lowN_lt (by omega), rfl⟩
  rw [ex2]
  refine g_iaddN (pc' := 265) C dL_law_264 rfl ?_
  refine g_bipush (v := nI 6) (pc' := 267) C dL_law_265 (by decide) rfl ?_
  refine g_iremN (r := (x1 + 1 + x2) % 6) (pc' := 268) C (by omega) (by omega) rfl dL_law_267 rfl ?_
  refine g_iast (pc' := 269) C (8 * z.1 + 3) rfl (by show _ < 64; omega) dL_law_268 (al13 rfl) (fun _ => rfl) rfl rfl ?_
  refine g_aload_n (pc' := 270) C dL_law_269 rfl rfl ?_
  refine g_iload (pc' := 272) C dL_law_270 rfl rfl ?_
  refine g_iconst (v := nI 4) (pc' := 273) C dL_law_272 (by decide) rfl ?_
  refine g_iaddN (pc' := 274) C dL_law_273 rfl ?_
  refine g_iload (pc' := 276) C dL_law_274 rfl rfl ?_
  refine g_bipush (v := nI 8) (pc' := 278) C dL_law_276 (by decide) rfl ?_
  refine g_ishr (pc' := 279) C dL_law_278 rfl ?_
  refine g_iconst (v := nI 5) (pc' := 280) C dL_law_279 (by decide) rfl ?_
  refine g_callS (pc' := 283) (As := [.int (v >>> (nI 8 &&& 31)), .int (nI 5)]) (S := [.int (nI (8 * z.1 + 4)), .ref ((Kg K).2.2 13 0)]) C cs_L_65 (w_low (b := 5) (by omega) (by omega)) dL_law_280 ⟨rfl, by decide +kernel, by decide +kernel, (by decide +kernel : (parseMethodDescriptor yL_low.desc).map (fun d => d.parameters.length) = some 2)⟩ ⟨⟨Nat.le_of_ble_eq_true rfl, Nat.le_of_ble_eq_true rfl⟩, rfl, rfl⟩ rfl (Nat.le_of_ble_eq_true rfl) ⟨show _ ≤ 645988 from by omega, show _ ≤ 7163735 from by omega⟩ rfl (fun v1 I1 P1 q => ?_)
  obtain ⟨rfl, q1, q2⟩ := q
  rw [q1, q2]
  obtain ⟨gg, hgg, egg⟩ : ∃ r, r < 5 ∧ lowN (v >>> (nI 8 &&& 31)) 5 = r := ⟨_, lowN_lt (by omega), rfl⟩
  rw [egg]
  refine g_iast (pc' := 284) C (8 * z.1 + 4) rfl (by show _ < 64; omega) dL_law_283 (al13 rfl) (fun _ => rfl) rfl rfl ?_
  refine g_aload_n (pc' := 285) C dL_law_284 rfl rfl ?_
  refine g_iload (pc' := 287) C dL_law_285 rfl rfl ?_
  refine g_iconst (v := nI 5) (pc' := 288) C dL_law_287 (by decide) rfl ?_
  refine g_iaddN (pc' := 289) C dL_law_288 rfl ?_
  refine g_aload (pc' := 291) C dL_law_289 rfl rfl ?_
  refine g_bipush (v := nI 8) (pc' := 293) C dL_law_291 (by decide) rfl ?_
  refine g_aload_n (pc' := 294) C dL_law_293 rfl rfl ?_
  refine g_iload (pc' := 296) C dL_law_294 rfl rfl ?_
  refine g_iconst (v := nI 2) (pc' := 297) C dL_law_296 (by decide) rfl ?_
  refine g_iaddN (pc' := 298) C dL_law_297 rfl ?_
  have r3 : (upI (upI (upI (upI I 13 0 (8 * z.1 + 1) (nI x0)) 13 0 (8 * z.1 + 2) (nI x1)) 13 0 (8 * z.1 + 3) (nI ((x1 + 1 + x2) % 6))) 13 0 (8 * z.1 + 4) (nI gg)) 13 0 (8 * z.1 + 2) = nI x1 := by
    rw [upI_at, if_neg (by omega), upI_at, if_neg (by omega), upI_at, if_pos ⟨rfl, rfl, rfl⟩]
  have hw5 : (upI (upI (upI (upI I 13 0 (8 * z.1 + 1) (nI x0)) 13 0 (8 * z.1 + 2) (nI x1)) 13 0 (8 * z.1 + 3) (nI ((x1 + 1 + x2) % 6))) 13 0 (8 * z.1 + 4) (nI gg)) 13 5 (8 + x1) = J 13 4 x1 := by
    rw [upI_at, if_neg (by omega), upI_at, if_neg (by omega), upI_at, if_neg (by omega), upI_at, if_neg (by omega)]; exact (S.y.w.2 x1 hx1).1
  refine g_iald (pc' := 299) C (8 * z.1 + 2) rfl (by show _ < 64; omega) dL_law_298 (al13 rfl) rfl rfl rfl ?_
  rw [r3]
  refine g_iaddN (pc' := 300) C dL_law_299 rfl ?_
  refine g_iald (pc' := 301) C (8 + x1) rfl (by show _ < 14; omega) dL_law_300 (al13 rfl) rfl rfl rfl ?_
  rw [hw5]
  refine g_iconst (v := nI 1) (pc' := 302) C dL_law_301 (by decide) rfl ?_
  refine g_icmp_ne (tgt := 309) (pc' := 305) C dL_law_302 (by decide) rfl (fun c1 => ?_) (fun c1 => ?_)
  ·
    have hw1 : J 13 4 x1 = 0 := (S.y.w.2 x1 hx1).2.resolve_right (fun e => c1 (by rw [e, nI1']))
    refine g_bipush (v := (-50)) (pc' := 311) C dL_law_309 (by decide) rfl ?_
    refine g_iast (pc' := 312) C (8 * z.1 + 5) rfl (by show _ < 64; omega) dL_law_311 (al13 rfl) (fun _ => rfl) rfl rfl ?_
    refine g_aload_n (pc' := 313) C dL_law_312 rfl rfl ?_
    refine g_iload (pc' := 315) C dL_law_313 rfl rfl ?_
    refine g_bipush (v := nI 6) (pc' := 317) C dL_law_315 (by decide) rfl ?_
    refine g_iaddN (pc' := 318) C dL_law_317 rfl ?_
    refine g_aload (pc' := 320) C dL_law_318 rfl rfl ?_
    refine g_iconst (v := nI 2) (pc' := 321) C dL_law_320 (by decide) rfl ?_
    have hq2 : (upI (upI (upI (upI (upI I 13 0 (8 * z.1 + 1) (nI x0)) 13 0 (8 * z.1 + 2) (nI x1)) 13 0 (8 * z.1 + 3) (nI ((x1 + 1 + x2) % 6))) 13 0 (8 * z.1 + 4) (nI gg)) 13 0 (8 * z.1 + 5) (-50)) 13 6 2 = nI nw := by
      rw [upI_at, if_neg (by omega), upI_at, if_neg (by omega), upI_at, if_neg (by omega), upI_at, if_neg (by omega), upI_at, if_neg (by omega)]; exact S.y.q2
    refine g_iald (pc' := 322) C (2) rfl (by show 2 < 3; omega) dL_law_321 (al13 rfl) rfl rfl rfl ?_
    rw [hq2]
    refine g_bipush (v := nI 100) (pc' := 324) C dL_law_322 (by decide) rfl ?_
    refine g_iaddN (pc' := 325) C dL_law_324 rfl ?_
    refine g_iast (pc' := 326) C (8 * z.1 + 6) rfl (by show _ < 64; omega) dL_law_325 (al13 rfl) (fun _ => rfl) rfl rfl ?_
    refine g_aload (pc' := 328) C dL_law_326 rfl rfl ?_
    refine g_iconst (v := nI 0) (pc' := 329) C dL_law_328 (by decide) rfl ?_
    refine g_dup2 (pc' := 330) C dL_law_329 rfl rfl rfl ?_
    have hq0 : (upI (upI (upI (upI (upI (upI I 13 0 (8 * z.1 + 1) (nI x0)) 13 0 (8 * z.1 + 2) (nI x1)) 13 0 (8 * z.1 + 3) (nI ((x1 + 1 + x2) % 6))) 13 0 (8 * z.1 + 4) (nI gg)) 13 0 (8 * z.1 + 5) (-50)) 13 0 (8 * z.1 + 6) (nI (nw + 100))) 13 6 0 = nI z.1 := by
      rw [upI_at, if_neg (by omega), upI_at, if_neg (by omega), upI_at, if_neg (by omega), upI_at, if_neg (by omega), upI_at, if_neg (by omega), upI_at, if_neg (by omega)]
      exact S.y.q0
    refine g_iald (pc' := 331) C (0) rfl (by show 0 < 3; omega) dL_law_330 (al13 rfl) rfl rfl rfl ?_
    rw [hq0]
    refine g_iconst (v := nI 1) (pc' := 332) C dL_law_331 (by decide) rfl ?_
    refine g_iaddN (pc' := 333) C dL_law_332 rfl ?_
    refine g_iast (pc' := 334) C (0) rfl (by show 0 < 3; omega) dL_law_333 (al13 rfl) (fun _ => rfl) rfl rfl ?_
    have hx6 : (x1 + 1 + x2) % 6 < 6 := Nat.mod_lt _ (by omega)
    have hx12 : x1 ≠ (x1 + 1 + x2) % 6 := by omega
    have h6 := S.s.A.f.1 z.1 (Nat.le_refl _) (by omega)
    have hbv : ((-50) : Int32) = if J 13 4 x1 = 0 then -50 else 0 := by rw [if_pos hw1]
    have Y2 : YS (fun _ => False) (z.1 + 1, z.2) nw (upI (upI (upI (upI (upI (upI (upI (th J 0) 13 7 z.1 (nI x0)) 13 8 z.1 (nI x1)) 13 9 z.1 (nI ((x1 + 1 + x2) % 6))) 13 10 z.1 (nI gg - nI 1)) 13 11 z.1 (-50)) 13 12 z.1 (nI (nw + 100))) 12 0 5 (nI (z.1 + 1))) ((upI (upI (upI (upI (upI (upI (upI I 13 0 (8 * z.1 + 1) (nI x0)) 13 0 (8 * z.1 + 2) (nI x1)) 13 0 (8 * z.1 + 3) (nI ((x1 + 1 + x2) % 6))) 13 0 (8 * z.1 + 4) (nI gg)) 13 0 (8 * z.1 + 5) ((-50))) 13 0 (8 * z.1 + 6) (nI (nw + 100))) 13 6 (0) (nI (z.1 + 1))) 13) := by
      rw [upI_13, upI_13, upI_13, upI_13, upI_13, upI_13, upI_13]
      exact S.y.file hM h6 (by omega) (by rw [nI1', Int32.sub_add_cancel]) ⟨_, hx6, rfl⟩
    have hO2 : Oth I (upI (upI (upI (upI (upI (upI (upI I 13 0 (8 * z.1 + 1) (nI x0)) 13 0 (8 * z.1 + 2) (nI x1)) 13 0 (8 * z.1 + 3) (nI ((x1 + 1 + x2) % 6))) 13 0 (8 * z.1 + 4) (nI gg)) 13 0 (8 * z.1 + 5) ((-50))) 13 0 (8 * z.1 + 6) (nI (nw + 100))) 13 6 (0) (nI (z.1 + 1))) := Oth.rf.up.up.up.up.up.up.up
    obtain ⟨hk0, J5, S5⟩ := fin_file S hO2 hM hx0 hx1 hx6 hx12 (by omega) hbv Y2
    obtain ⟨-, f1, f2, f3, f4, -⟩ := Y2.m.2.1 z.1 (Nat.lt_succ_self _)
    have f1 : (upI (upI (upI (upI (upI (upI (upI I 13 0 (8 * z.1 + 1) (nI x0)) 13 0 (8 * z.1 + 2) (nI x1)) 13 0 (8 * z.1 + 3) (nI ((x1 + 1 + x2) % 6))) 13 0 (8 * z.1 + 4) (nI gg)) 13 0 (8 * z.1 + 5) ((-50))) 13 0 (8 * z.1 + 6) (nI (nw + 100))) 13 6 (0) (nI (z.1 + 1))) 13 0 (8 * z.1 + 1) = nI x0 := f1.trans (by simp [upI_at])
    have f2 : (upI (upI (upI (upI (upI (upI (upI I 13 0 (8 * z.1 + 1) (nI x0)) 13 0 (8 * z.1 + 2) (nI x1)) 13 0 (8 * z.1 + 3) (nI ((x1 + 1 + x2) % 6))) 13 0 (8 * z.1 + 4) (nI gg)) 13 0 (8 * z.1 + 5) ((-50))) 13 0 (8 * z.1 + 6) (nI (nw + 100))) 13 6 (0) (nI (z.1 + 1))) 13 0 (8 * z.1 + 2) = nI x1 := f2.trans (by simp [upI_at])
    have f3 : (upI (upI (upI (upI (upI (upI (upI I 13 0 (8 * z.1 + 1) (nI x0)) 13 0 (8 * z.1 + 2) (nI x1)) 13 0 (8 * z.1 + 3) (nI ((x1 + 1 + x2) % 6))) 13 0 (8 * z.1 + 4) (nI gg)) 13 0 (8 * z.1 + 5) ((-50))) 13 0 (8 * z.1 + 6) (nI (nw + 100))) 13 6 (0) (nI (z.1 + 1))) 13 0 (8 * z.1 + 3) = nI ((x1 + 1 + x2) % 6) := f3.trans (by simp [upI_at])
    have f4 : (upI (upI (upI (upI (upI (upI (upI I 13 0 (8 * z.1 + 1) (nI x0)) 13 0 (8 * z.1 + 2) (nI x1)) 13 0 (8 * z.1 + 3) (nI ((x1 + 1 + x2) % 6))) 13 0 (8 * z.1 + 4) (nI gg)) 13 0 (8 * z.1 + 5) ((-50))) 13 0 (8 * z.1 + 6) (nI (nw + 100))) 13 6 (0) (nI (z.1 + 1))) 13 0 (8 * z.1 + 4) = nI gg := f4.trans (by simp [upI_at, nI1', Int32.sub_add_cancel])
    clear Y2
    generalize (upI (upI (upI (upI (upI (upI (upI I 13 0 (8 * z.1 + 1) (nI x0)) 13 0 (8 * z.1 + 2) (nI x1)) 13 0 (8 * z.1 + 3) (nI ((x1 + 1 + x2) % 6))) 13 0 (8 * z.1 + 4) (nI gg)) 13 0 (8 * z.1 + 5) ((-50))) 13 0 (8 * z.1 + 6) (nI (nw + 100))) 13 6 (0) (nI (z.1 + 1))) = I5 at S5 hO2 hk0 f1 f2 f3 f4 ⊢
    refine g_aload_n (pc' := 335) C dL_law_334 rfl rfl ?_
    refine g_aload_n (pc' := 336) C dL_law_335 rfl rfl ?_
    refine g_iload (pc' := 338) C dL_law_336 rfl rfl ?_
    refine g_iconst (v := nI 1) (pc' := 339) C dL_law_338 (by decide) rfl ?_
    refine g_iaddN (pc' := 340) C dL_law_339 rfl ?_
    refine g_iald (pc' := 341) C (8 * z.1 + 1) rfl (by show _ < 64; omega) dL_law_340 (al13 rfl) rfl rfl rfl ?_
    rw [f1]
    refine g_aload_n (pc' := 342) C dL_law_341 rfl rfl ?_
    refine g_iload (pc' := 344) C dL_law_342 rfl rfl ?_
    refine g_iconst (v := nI 2) (pc' := 345) C dL_law_344 (by decide) rfl ?_
    refine g_iaddN (pc' := 346) C dL_law_345 rfl ?_
    refine g_iald (pc' := 347) C (8 * z.1 + 2) rfl (by show _ < 64; omega) dL_law_346 (al13 rfl) rfl rfl rfl ?_
    rw [f2]
    refine g_aload_n (pc' := 348) C dL_law_347 rfl rfl ?_
    refine g_iload (pc' := 350) C dL_law_348 rfl rfl ?_
    refine g_iconst (v := nI 3) (pc' := 351) C dL_law_350 (by decide) rfl ?_
    refine g_iaddN (pc' := 352) C dL_law_351 rfl ?_
    refine g_iald (pc' := 353) C (8 * z.1 + 3) rfl (by show _ < 64; omega) dL_law_352 (al13 rfl) rfl rfl rfl ?_
    rw [f3]
    refine g_aload_n (pc' := 354) C dL_law_353 rfl rfl ?_
    refine g_iload (pc' := 356) C dL_law_354 rfl rfl ?_
    refine g_iconst (v := nI 4) (pc' := 357) C dL_law_356 (by decide) rfl ?_
    refine g_iaddN (pc' := 358) C dL_law_357 rfl ?_
    refine g_iald (pc' := 359) C (8 * z.1 + 4) rfl (by show _ < 64; omega) dL_law_358 (al13 rfl) rfl rfl rfl ?_
    rw [f4]
    refine g_iconst (v := nI 1) (pc' := 360) C dL_law_359 (by decide) rfl ?_
    refine g_isub (pc' := 361) C dL_law_360 rfl ?_
    refine x_callV (pc' := 364) (mc := 1) (ms := 8) (As := [.int (nI x0), .int (nI x1), .int (nI ((x1 + 1 + x2) % 6)), .int (nI gg - nI 1)]) (S := []) (post := fun sz => pF (cK2 I5 (nI x0) (nI x1) (nI ((x1 + 1 + x2) % 6)) (nI gg - nI 1)) (Kg K) z sz (cO2 I5 z.1 (nI x0) (nI x1) (nI ((x1 + 1 + x2) % 6)) (nI gg - nI 1)) (upP P 6 0 z.1 (some z.1)) O) C hXK cv_L_122 (fun sz => m_X3_file hfl (S.s.oth hO2).X S.r sz) dL_law_361 (by first | assumption | exact rfl | exact al13 rfl | exact Nat.le_of_ble_eq_true rfl) rfl rfl ⟨rfl, by decide +kernel, by decide +kernel, (by decide +kernel : (parseMethodDescriptor yX3_file.desc).map (fun d => d.parameters.length) = some 4)⟩ ⟨⟨Nat.le_of_ble_eq_true rfl, Nat.le_of_ble_eq_true rfl⟩, rfl, rfl⟩ rfl (Nat.le_of_ble_eq_true rfl) ⟨show _ ≤ 645988 from by omega, show _ ≤ 7163735 from by omega⟩ rfl (fun E hE => ?_) (fun sz' v' g' z' I' P' O' hA' hp => ?_)
    · obtain ⟨q, hq, hkq⟩ := hE
      rw [hk0] at hkq
      subst hkq
      simp only [List.mem_cons, List.not_mem_nil, or_false, Prod.mk.injEq] at hq
      rcases hq with ⟨q, -⟩ | ⟨q, -⟩ | ⟨q, -⟩ <;> exact absurd q (by decide)
    obtain ⟨-, qv, ⟨a, ha, rfl⟩, qz, qI, qP, qO⟩ := hp
    rw [qv, qz, qI, qP, qO]
    have ha2 := hA' a ha
    have C' : Cx (Kw K (gUp (Kg K) 2 z.1 a)) cL_law RL 17 (some .boolean) room_1 (z.1 + 1, z.2) := C.up rfl rfl (fun k i hw => by
      rcases wAl_M hw with hw | ⟨rfl, rfl⟩
      · rw [gUp_M hw]; exact Cx.al C hw
      · rw [show (gUp (Kg K) 2 z.1 a).2.2 2 z.1 = a from if_pos ⟨rfl, rfl⟩]; exact ha2)
    have e13 : ∀ i, (gUp (Kg K) 2 z.1 a).2.2 13 i = (Kg K).2.2 13 i := fun i => by
      show (if 13 = 2 ∧ i = z.1 then a else (Kg K).2.2 13 i) = _
      rw [if_neg (by omega)]
    have e0 : (gUp (Kg K) 2 z.1 a).2.2 0 0 = (Kg K).2.2 0 0 := by
      show (if 0 = 2 ∧ 0 = z.1 then a else (Kg K).2.2 0 0) = _
      rw [if_neg (by omega)]
    refine g_aload (K := Kw K (gUp (Kg K) 2 z.1 a)) (pc' := 366) C' dL_law_364 rfl rfl ?_
    refine g_iconst (v := nI 0) (pc' := 367) C' dL_law_366 (by decide) rfl ?_
    rw [← e13 6]
    refine g_iald (K := Kw K (gUp (Kg K) 2 z.1 a)) (pc' := 368) C' 0 rfl (by show 0 < 3; omega) dL_law_367 (al13 rfl) rfl rfl rfl ?_
    rw [show cO2 I5 z.1 (nI x0) (nI x1) (nI ((x1 + 1 + x2) % 6)) (nI gg - nI 1) 13 6 0 = nI (z.1 + 1) from S5.y.q0]
    refine g_iconst (v := nI 1) (pc' := 369) C' dL_law_368 (by decide) rfl ?_
    refine g_isubN (r := z.1) (pc' := 370) C' (by omega) dL_law_369 rfl ?_
    refine g_icmp_neN (tgt := 377) (pc' := 373) C' (by omega) (by omega) dL_law_370 (by decide) rfl (fun q => absurd rfl q) (fun _ => ?_)
    refine g_iconst (v := nI 1) (pc' := 374) C' dL_law_373 (by decide) rfl ?_
    refine g_goto (tgt := 378) C' dL_law_374 (by decide) ?_
    refine g_istore (pc' := 380) C' dL_law_378 rfl rfl ?_
    refine g_goto (tgt := 771) C' dL_law_380 (by decide) ?_
    rw [e13 6]
    exact G_pick [0, 1, 2, 3, 4, 5, 6, 7, 8, 9, 10, 11, 12, 13] rfl (kk (gUp (Kg K) 2 z.1 a) (z.1 + 1, z.2) nw _ _ O _ _ J5 C' ⟨e0, fun i _ => e13 i⟩ S5 (Nat.succ_pos _) hn9 (by omega) (by omega))
  ·
    have hw1 : ¬ J 13 4 x1 = 0 := fun e => by rw [e] at c1; exact absurd c1 (by decide)
    refine g_iconst (v := nI 0) (pc' := 306) C dL_law_305 (by decide) rfl ?_
    refine g_goto (tgt := 311) C dL_law_306 (by decide) ?_
    refine g_iast (pc' := 312) C (8 * z.1 + 5) rfl (by show _ < 64; omega) dL_law_311 (al13 rfl) (fun _ => rfl) rfl rfl ?_
    refine g_aload_n (pc' := 313) C dL_law_312 rfl rfl ?_
    refine g_iload (pc' := 315) C dL_law_313 rfl rfl ?_
    refine g_bipush (v := nI 6) (pc' := 317) C dL_law_315 (by decide) rfl ?_
    refine g_iaddN (pc' := 318) C dL_law_317 rfl ?_
    refine g_aload (pc' := 320) C dL_law_318 rfl rfl ?_
    refine g_iconst (v := nI 2) (pc' := 321) C dL_law_320 (by decide) rfl ?_
    have hq2 : (upI (upI (upI (upI (upI I 13 0 (8 * z.1 + 1) (nI x0)) 13 0 (8 * z.1 + 2) (nI x1)) 13 0 (8 * z.1 + 3) (nI ((x1 + 1 + x2) % 6))) 13 0 (8 * z.1 + 4) (nI gg)) 13 0 (8 * z.1 + 5) (nI 0)) 13 6 2 = nI nw := by
      rw [upI_at, if_neg (by omega), upI_at, if_neg (by omega), upI_at, if_neg (by omega), upI_at, if_neg (by omega), upI_at, if_neg (by omega)]; exact S.y.q2
    refine g_iald (pc' := 322) C (2) rfl (by show 2 < 3; omega) dL_law_321 (al13 rfl) rfl rfl rfl ?_
    rw [hq2]
    refine g_bipush (v := nI 100) (pc' := 324) C dL_law_322 (by decide) rfl ?_
    refine g_iaddN (pc' := 325) C dL_law_324 rfl ?_
    refine g_iast (pc' := 326) C (8 * z.1 + 6) rfl (by show _ < 64; omega) dL_law_325 (al13 rfl) (fun _ => rfl) rfl rfl ?_
    refine g_aload (pc' := 328) C dL_law_326 rfl rfl ?_
    refine g_iconst (v := nI 0) (pc' := 329) C dL_law_328 (by decide) rfl ?_
    refine g_dup2 (pc' := 330) C dL_law_329 rfl rfl rfl ?_
    have hq0 : (upI (upI (upI (upI (upI (upI I 13 0 (8 * z.1 + 1) (nI x0)) 13 0 (8 * z.1 + 2) (nI x1)) 13 0 (8 * z.1 + 3) (nI ((x1 + 1 + x2) % 6))) 13 0 (8 * z.1 + 4) (nI gg)) 13 0 (8 * z.1 + 5) (nI 0)) 13 0 (8 * z.1 + 6) (nI (nw + 100))) 13 6 0 = nI z.1 := by
      rw [upI_at, if_neg (by omega), upI_at, if_neg (by omega), upI_at, if_neg (by omega), upI_at, if_neg (by omega), upI_at, if_neg (by omega), upI_at, if_neg (by omega)]
      exact S.y.q0
    refine g_iald (pc' := 331) C (0) rfl (by show 0 < 3; omega) dL_law_330 (al13 rfl) rfl rfl rfl ?_
    rw [hq0]
    refine g_iconst (v := nI 1) (pc' := 332) C dL_law_331 (by decide) rfl ?_
    refine g_iaddN (pc' := 333) C dL_law_332 rfl ?_
    refine g_iast (pc' := 334) C (0) rfl (by show 0 < 3; omega) dL_law_333 (al13 rfl) (fun _ => rfl) rfl rfl ?_
    have hx6 : (x1 + 1 + x2) % 6 < 6 := Nat.mod_lt _ (by omega)
    have hx12 : x1 ≠ (x1 + 1 + x2) % 6 := by omega
    have h6 := S.s.A.f.1 z.1 (Nat.le_refl _) (by omega)
    have hbv : ((nI 0) : Int32) = if J 13 4 x1 = 0 then -50 else 0 := by rw [if_neg hw1]; exact nI_0
    have Y2 : YS (fun _ => False) (z.1 + 1, z.2) nw (upI (upI (upI (upI (upI (upI (upI (th J 0) 13 7 z.1 (nI x0)) 13 8 z.1 (nI x1)) 13 9 z.1 (nI ((x1 + 1 + x2) % 6))) 13 10 z.1 (nI gg - nI 1)) 13 11 z.1 (nI 0)) 13 12 z.1 (nI (nw + 100))) 12 0 5 (nI (z.1 + 1))) ((upI (upI (upI (upI (upI (upI (upI I 13 0 (8 * z.1 + 1) (nI x0)) 13 0 (8 * z.1 + 2) (nI x1)) 13 0 (8 * z.1 + 3) (nI ((x1 + 1 + x2) % 6))) 13 0 (8 * z.1 + 4) (nI gg)) 13 0 (8 * z.1 + 5) (nI 0)) 13 0 (8 * z.1 + 6) (nI (nw + 100))) 13 6 (0) (nI (z.1 + 1))) 13) := by
      rw [upI_13, upI_13, upI_13, upI_13, upI_13, upI_13, upI_13]
      exact S.y.file hM h6 (by omega) (by rw [nI1', Int32.sub_add_cancel]) ⟨_, hx6, rfl⟩
    have hO2 : Oth I (upI (upI (upI (upI (upI (upI (upI I 13 0 (8 * z.1 + 1) (nI x0)) 13 0 (8 * z.1 + 2) (nI x1)) 13 0 (8 * z.1 + 3) (nI ((x1 + 1 + x2) % 6))) 13 0 (8 * z.1 + 4) (nI gg)) 13 0 (8 * z.1 + 5) (nI 0)) 13 0 (8 * z.1 + 6) (nI (nw + 100))) 13 6 (0) (nI (z.1 + 1))) := Oth.rf.up.up.up.up.up.up.up
    obtain ⟨hk0, J5, S5⟩ := fin_file S hO2 hM hx0 hx1 hx6 hx12 (by omega) hbv Y2
    obtain ⟨-, f1, f2, f3, f4, -⟩ := Y2.m.2.1 z.1 (Nat.lt_succ_self _)
    have f1 : (upI (upI (upI (upI (upI (upI (upI I 13 0 (8 * z.1 + 1) (nI x0)) 13 0 (8 * z.1 + 2) (nI x1)) 13 0 (8 * z.1 + 3) (nI ((x1 + 1 + x2) % 6))) 13 0 (8 * z.1 + 4) (nI gg)) 13 0 (8 * z.1 + 5) (nI 0)) 13 0 (8 * z.1 + 6) (nI (nw + 100))) 13 6 (0) (nI (z.1 + 1))) 13 0 (8 * z.1 + 1) = nI x0 := f1.trans (by simp [upI_at])
    have f2 : (upI (upI (upI (upI (upI (upI (upI I 13 0 (8 * z.1 + 1) (nI x0)) 13 0 (8 * z.1 + 2) (nI x1)) 13 0 (8 * z.1 + 3) (nI ((x1 + 1 + x2) % 6))) 13 0 (8 * z.1 + 4) (nI gg)) 13 0 (8 * z.1 + 5) (nI 0)) 13 0 (8 * z.1 + 6) (nI (nw + 100))) 13 6 (0) (nI (z.1 + 1))) 13 0 (8 * z.1 + 2) = nI x1 := f2.trans (by simp [upI_at])
    have f3 : (upI (upI (upI (upI (upI (upI (upI I 13 0 (8 * z.1 + 1) (nI x0)) 13 0 (8 * z.1 + 2) (nI x1)) 13 0 (8 * z.1 + 3) (nI ((x1 + 1 + x2) % 6))) 13 0 (8 * z.1 + 4) (nI gg)) 13 0 (8 * z.1 + 5) (nI 0)) 13 0 (8 * z.1 + 6) (nI (nw + 100))) 13 6 (0) (nI (z.1 + 1))) 13 0 (8 * z.1 + 3) = nI ((x1 + 1 + x2) % 6) := f3.trans (by simp [upI_at])
    have f4 : (upI (upI (upI (upI (upI (upI (upI I 13 0 (8 * z.1 + 1) (nI x0)) 13 0 (8 * z.1 + 2) (nI x1)) 13 0 (8 * z.1 + 3) (nI ((x1 + 1 + x2) % 6))) 13 0 (8 * z.1 + 4) (nI gg)) 13 0 (8 * z.1 + 5) (nI 0)) 13 0 (8 * z.1 + 6) (nI (nw + 100))) 13 6 (0) (nI (z.1 + 1))) 13 0 (8 * z.1 + 4) = nI gg := f4.trans (by simp [upI_at, nI1', Int32.sub_add_cancel])
    clear Y2
    generalize (upI (upI (upI (upI (upI (upI (upI I 13 0 (8 * z.1 + 1) (nI x0)) 13 0 (8 * z.1 + 2) (nI x1)) 13 0 (8 * z.1 + 3) (nI ((x1 + 1 + x2) % 6))) 13 0 (8 * z.1 + 4) (nI gg)) 13 0 (8 * z.1 + 5) (nI 0)) 13 0 (8 * z.1 + 6) (nI (nw + 100))) 13 6 (0) (nI (z.1 + 1))) = I5 at S5 hO2 hk0 f1 f2 f3 f4 ⊢
    refine g_aload_n (pc' := 335) C dL_law_334 rfl rfl ?_
    refine g_aload_n (pc' := 336) C dL_law_335 rfl rfl ?_
    refine g_iload (pc' := 338) C dL_law_336 rfl rfl ?_
    refine g_iconst (v := nI 1) (pc' := 339) C dL_law_338 (by decide) rfl ?_
    refine g_iaddN (pc' := 340) C dL_law_339 rfl ?_
    refine g_iald (pc' := 341) C (8 * z.1 + 1) rfl (by show _ < 64; omega) dL_law_340 (al13 rfl) rfl rfl rfl ?_
    rw [f1]
    refine g_aload_n (pc' := 342) C dL_law_341 rfl rfl ?_
    refine g_iload (pc' := 344) C dL_law_342 rfl rfl ?_
    refine g_iconst (v := nI 2) (pc' := 345) C dL_law_344 (by decide) rfl ?_
    refine g_iaddN (pc' := 346) C dL_law_345 rfl ?_
    refine g_iald (pc' := 347) C (8 * z.1 + 2) rfl (by show _ < 64; omega) dL_law_346 (al13 rfl) rfl rfl rfl ?_
    rw [f2]
    refine g_aload_n (pc' := 348) C dL_law_347 rfl rfl ?_
    refine g_iload (pc' := 350) C dL_law_348 rfl rfl ?_
    refine g_iconst (v := nI 3) (pc' := 351) C dL_law_350 (by decide) rfl ?_
    refine g_iaddN (pc' := 352) C dL_law_351 rfl ?_
    refine g_iald (pc' := 353) C (8 * z.1 + 3) rfl (by show _ < 64; omega) dL_law_352 (al13 rfl) rfl rfl rfl ?_
    rw [f3]
    refine g_aload_n (pc' := 354) C dL_law_353 rfl rfl ?_
    refine g_iload (pc' := 356) C dL_law_354 rfl rfl ?_
    refine g_iconst (v := nI 4) (pc' := 357) C dL_law_356 (by decide) rfl ?_
    refine g_iaddN (pc' := 358) C dL_law_357 rfl ?_
    refine g_iald (pc' := 359) C (8 * z.1 + 4) rfl (by show _ < 64; omega) dL_law_358 (al13 rfl) rfl rfl rfl ?_
    rw [f4]
    refine g_iconst (v := nI 1) (pc' := 360) C dL_law_359 (by decide) rfl ?_
    refine g_isub (pc' := 361) C dL_law_360 rfl ?_
    refine x_callV (pc' := 364) (mc := 1) (ms := 8) (As := [.int (nI x0), .int (nI x1), .int (nI ((x1 + 1 + x2) % 6)), .int (nI gg - nI 1)]) (S := []) (post := fun sz => pF (cK2 I5 (nI x0) (nI x1) (nI ((x1 + 1 + x2) % 6)) (nI gg - nI 1)) (Kg K) z sz (cO2 I5 z.1 (nI x0) (nI x1) (nI ((x1 + 1 + x2) % 6)) (nI gg - nI 1)) (upP P 6 0 z.1 (some z.1)) O) C hXK cv_L_122 (fun sz => m_X3_file hfl (S.s.oth hO2).X S.r sz) dL_law_361 (by first | assumption | exact rfl | exact al13 rfl | exact Nat.le_of_ble_eq_true rfl) rfl rfl ⟨rfl, by decide +kernel, by decide +kernel, (by decide +kernel : (parseMethodDescriptor yX3_file.desc).map (fun d => d.parameters.length) = some 4)⟩ ⟨⟨Nat.le_of_ble_eq_true rfl, Nat.le_of_ble_eq_true rfl⟩, rfl, rfl⟩ rfl (Nat.le_of_ble_eq_true rfl) ⟨show _ ≤ 645988 from by omega, show _ ≤ 7163735 from by omega⟩ rfl (fun E hE => ?_) (fun sz' v' g' z' I' P' O' hA' hp => ?_)
    · obtain ⟨q, hq, hkq⟩ := hE
      rw [hk0] at hkq
      subst hkq
      simp only [List.mem_cons, List.not_mem_nil, or_false, Prod.mk.injEq] at hq
      rcases hq with ⟨q, -⟩ | ⟨q, -⟩ | ⟨q, -⟩ <;> exact absurd q (by decide)
    obtain ⟨-, qv, ⟨a, ha, rfl⟩, qz, qI, qP, qO⟩ := hp
    rw [qv, qz, qI, qP, qO]
    have ha2 := hA' a ha
    have C' : Cx (Kw K (gUp (Kg K) 2 z.1 a)) cL_law RL 17 (some .boolean) room_1 (z.1 + 1, z.2) := C.up rfl rfl (fun k i hw => by
      rcases wAl_M hw with hw | ⟨rfl, rfl⟩
      · rw [gUp_M hw]; exact Cx.al C hw
      · rw [show (gUp (Kg K) 2 z.1 a).2.2 2 z.1 = a from if_pos ⟨rfl, rfl⟩]; exact ha2)
    have e13 : ∀ i, (gUp (Kg K) 2 z.1 a).2.2 13 i = (Kg K).2.2 13 i := fun i => by
      show (if 13 = 2 ∧ i = z.1 then a else (Kg K).2.2 13 i) = _
      rw [if_neg (by omega)]
    have e0 : (gUp (Kg K) 2 z.1 a).2.2 0 0 = (Kg K).2.2 0 0 := by
      show (if 0 = 2 ∧ 0 = z.1 then a else (Kg K).2.2 0 0) = _
      rw [if_neg (by omega)]
    refine g_aload (K := Kw K (gUp (Kg K) 2 z.1 a)) (pc' := 366) C' dL_law_364 rfl rfl ?_
    refine g_iconst (v := nI 0) (pc' := 367) C' dL_law_366 (by decide) rfl ?_
    rw [← e13 6]
    refine g_iald (K := Kw K (gUp (Kg K) 2 z.1 a)) (pc' := 368) C' 0 rfl (by show 0 < 3; omega) dL_law_367 (al13 rfl) rfl rfl rfl ?_
    rw [show cO2 I5 z.1 (nI x0) (nI x1) (nI ((x1 + 1 + x2) % 6)) (nI gg - nI 1) 13 6 0 = nI (z.1 + 1) from S5.y.q0]
    refine g_iconst (v := nI 1) (pc' := 369) C' dL_law_368 (by decide) rfl ?_
    refine g_isubN (r := z.1) (pc' := 370) C' (by omega) dL_law_369 rfl ?_
    refine g_icmp_neN (tgt := 377) (pc' := 373) C' (by omega) (by omega) dL_law_370 (by decide) rfl (fun q => absurd rfl q) (fun _ => ?_)
    refine g_iconst (v := nI 1) (pc' := 374) C' dL_law_373 (by decide) rfl ?_
    refine g_goto (tgt := 378) C' dL_law_374 (by decide) ?_
    refine g_istore (pc' := 380) C' dL_law_378 rfl rfl ?_
    refine g_goto (tgt := 771) C' dL_law_380 (by decide) ?_
    rw [e13 6]
    exact G_pick [0, 1, 2, 3, 4, 5, 6, 7, 8, 9, 10, 11, 12, 13] rfl (kk (gUp (Kg K) 2 z.1 a) (z.1 + 1, z.2) nw _ _ O _ _ J5 C' ⟨e0, fun i _ => e13 i⟩ S5 (Nat.succ_pos _) hn9 (by omega) (by omega))
set_option maxRecDepth 20000 in
theorem l_plans {K : wK} {z : wZ} {I : wI} {P : wP} {O : wO} {nw : Nat} {J : wI} {b Ln c n : Nat} {xs : Nat → Int32} (hfl : (Kl K).stackTraces = false) (hXK : XK K) (hX : SX K b Ln xs) (C : Cx K cL_law RL 17 (some .boolean) room_1 z) (S : Stt z nw I P J) (hn9 : nw ≤ 900) (hcc : c + 300 ≤ 645988) (hnn : n + 3000 ≤ 7163735) {turn act : Nat} {e v : Int32} (hz : 0 < z.1) (ha : act < 18) (kk : ∀ (g' : wG) (z' : wZ) (nw' : Nat) (I' : wI) (P' : wP) (O' : wO) (c' n' : Nat) (J' : wI), Cx (Kw K g') cL_law RL 17 (some .boolean) room_1 z' → (g'.2.2 0 0 = (Kg K).2.2 0 0 ∧ ∀ i, i < 7 → g'.2.2 13 i = (Kg K).2.2 13 i) → Stt z' nw' I' P' J' → 0 < z'.1 → nw' ≤ 900 → c' ≤ c + 10 → n' ≤ n + 100 → G (Kw K g') z' I' P' O' c' n' 771 [(0, .ref b), (1, .ref ((Kg K).2.2 0 0)), (2, .ref ((Kg K).2.2 13 0)), (3, .ref ((Kg K).2.2 13 1)), (4, .ref ((Kg K).2.2 13 2)), (5, .ref ((Kg K).2.2 13 3)), (6, .ref ((Kg K).2.2 13 4)), (7, .ref ((Kg K).2.2 13 5)), (8, .ref ((Kg K).2.2 13 6)), (9, .int (nI 1)), (10, .int (nI turn)), (11, .int e), (12, .int (nI act)), (13, .int v)] []) : G K z I P O c n 390 [(0, .ref b), (1, .ref ((Kg K).2.2 0 0)), (2, .ref ((Kg K).2.2 13 0)), (3, .ref ((Kg K).2.2 13 1)), (4, .ref ((Kg K).2.2 13 2)), (5, .ref ((Kg K).2.2 13 3)), (6, .ref ((Kg K).2.2 13 4)), (7, .ref ((Kg K).2.2 13 5)), (8, .ref ((Kg K).2.2 13 6)), (9, .int (nI 1)), (10, .int (nI turn)), (11, .int e), (12, .int (nI act)), (13, .int v)] [] := by
  refine g_aload_n (pc' := 391) C dL_law_390 rfl rfl ?_
  refine g_iload (pc' := 393) C dL_law_391 rfl rfl ?_
  refine g_bipush (v := nI 9) (pc' := 395) C dL_law_393 (by decide) rfl ?_
  refine g_icmp_geN (tgt := 402) (pc' := 398) C (by omega) (by omega) dL_law_395 (by decide) rfl (fun c1 => ?_) (fun c1 => ?_)
  ·
    refine g_iload (pc' := 404) C dL_law_402 rfl rfl ?_
    refine g_bipush (v := nI 12) (pc' := 406) C dL_law_404 (by decide) rfl ?_
    refine g_icmp_geN (tgt := 413) (pc' := 409) C (by omega) (by omega) dL_law_406 (by decide) rfl (fun c2 => ?_) (fun c2 => ?_)
    ·
      refine g_iload (pc' := 415) C dL_law_413 rfl rfl ?_
      refine g_bipush (v := nI 12) (pc' := 417) C dL_law_415 (by decide) rfl ?_
      refine g_icmp_neN (tgt := 424) (pc' := 420) C (by omega) (by omega) dL_law_417 (by decide) rfl (fun c3 => ?_) (fun c3 => ?_)
      ·
        refine g_iconst (v := nI 3) (pc' := 425) C dL_law_424 (by decide) rfl ?_
        refine g_iload (pc' := 427) C dL_law_425 rfl rfl ?_
        refine g_aload_n (pc' := 428) C dL_law_427 rfl rfl ?_
        refine g_aload_n (pc' := 429) C dL_law_428 rfl rfl ?_
        refine g_aload (pc' := 431) C dL_law_429 rfl rfl ?_
        refine g_aload (pc' := 433) C dL_law_431 rfl rfl ?_
        refine g_aload (pc' := 435) C dL_law_433 rfl rfl ?_
        refine g_aload (pc' := 437) C dL_law_435 rfl rfl ?_
        refine g_aload (pc' := 439) C dL_law_437 rfl rfl ?_
        refine x_callP (pc' := 442) (mc := 2) (ms := 14) (As := [.ref ((Kg K).2.2 0 0), .int (nI 3), .int v, .ref ((Kg K).2.2 13 0), .ref ((Kg K).2.2 13 1), .ref ((Kg K).2.2 13 2), .ref ((Kg K).2.2 13 3), .ref ((Kg K).2.2 13 4), .ref ((Kg K).2.2 13 5), .ref ((Kg K).2.2 13 6)]) (S := []) C hXK cs_L_125 (fun sz => w_pl_notice hfl S hz hn9 sz) dL_law_439 ⟨by decide +kernel, by decide +kernel, (by decide +kernel : (parseMethodDescriptor yL_plans.desc).map (fun d => d.parameters.length) = some 10)⟩ ⟨⟨Nat.le_of_ble_eq_true rfl, Nat.le_of_ble_eq_true rfl⟩, rfl, rfl⟩ rfl (Nat.le_of_ble_eq_true rfl) ⟨show _ ≤ 645988 from by omega, show _ ≤ 7163735 from by omega⟩ rfl (fun sz' v' g' z' I' P' O' hA' hp => ?_)
        obtain ⟨qO, qv, ⟨g1, g2, g3, g4, g5, g6⟩, J5, S5⟩ := hp
        rw [qv, ← nI1']
        have hAl : ∀ k i, wAl z' k i → Ka K (g'.2.2 k i) := fun k i hw => (g4 k i hw).elim (fun ⟨k2, i2, hw2, e2⟩ => by rw [e2]; exact Cx.al C hw2) (hA' _)
        have C' : Cx (Kw K g') cL_law RL 17 (some .boolean) room_1 z' := C.up g1 g2 hAl
        refine g_istore (K := Kw K g') (pc' := 444) C' dL_law_442 rfl rfl ?_
        refine g_goto (tgt := 771) C' dL_law_444 (by decide) ?_
        exact G_pick [0, 1, 2, 3, 4, 5, 6, 7, 8, 9, 10, 11, 12, 13] rfl (kk g' z' nw I' P' O' _ _ J5 C' ⟨g3 0 0 rfl, fun i hi => g3 13 i (al13 (by rcases (show i = 0 ∨ i = 1 ∨ i = 2 ∨ i = 3 ∨ i = 4 ∨ i = 5 ∨ i = 6 by omega) with rfl | rfl | rfl | rfl | rfl | rfl | rfl <;> rfl))⟩ S5 (Nat.lt_of_lt_of_le hz g5) hn9 (by omega) (by omega))
      ·
        refine g_iconst (v := nI 2) (pc' := 421) C dL_law_420 (by decide) rfl ?_
        refine g_goto (tgt := 425) C dL_law_421 (by decide) ?_
        refine g_iload (pc' := 427) C dL_law_425 rfl rfl ?_
        refine g_aload_n (pc' := 428) C dL_law_427 rfl rfl ?_
        refine g_aload_n (pc' := 429) C dL_law_428 rfl rfl ?_
        refine g_aload (pc' := 431) C dL_law_429 rfl rfl ?_
        refine g_aload (pc' := 433) C dL_law_431 rfl rfl ?_
        refine g_aload (pc' := 435) C dL_law_433 rfl rfl ?_
        refine g_aload (pc' := 437) C dL_law_435 rfl rfl ?_
        refine g_aload (pc' := 439) C dL_law_437 rfl rfl ?_
        refine x_callP (pc' := 442) (mc := 2) (ms := 14) (As := [.ref ((Kg K).2.2 0 0), .int (nI 2), .int v, .ref ((Kg K).2.2 13 0), .ref ((Kg K).2.2 13 1), .ref ((Kg K).2.2 13 2), .ref ((Kg K).2.2 13 3), .ref ((Kg K).2.2 13 4), .ref ((Kg K).2.2 13 5), .ref ((Kg K).2.2 13 6)]) (S := []) C hXK cs_L_125 (fun sz => w_pl_drop hfl S hz hn9 sz) dL_law_439 ⟨by decide +kernel, by decide +kernel, (by decide +kernel : (parseMethodDescriptor yL_plans.desc).map (fun d => d.parameters.length) = some 10)⟩ ⟨⟨Nat.le_of_ble_eq_true rfl, Nat.le_of_ble_eq_true rfl⟩, rfl, rfl⟩ rfl (Nat.le_of_ble_eq_true rfl) ⟨show _ ≤ 645988 from by omega, show _ ≤ 7163735 from by omega⟩ rfl (fun sz' v' g' z' I' P' O' hA' hp => ?_)
        obtain ⟨qO, qv, ⟨g1, g2, g3, g4, g5, g6⟩, J5, S5⟩ := hp
        rw [qv, ← nI1']
        have hAl : ∀ k i, wAl z' k i → Ka K (g'.2.2 k i) := fun k i hw => (g4 k i hw).elim (fun ⟨k2, i2, hw2, e2⟩ => by rw [e2]; exact Cx.al C hw2) (hA' _)
        have C' : Cx (Kw K g') cL_law RL 17 (some .boolean) room_1 z' := C.up g1 g2 hAl
        refine g_istore (K := Kw K g') (pc' := 444) C' dL_law_442 rfl rfl ?_
        refine g_goto (tgt := 771) C' dL_law_444 (by decide) ?_
        exact G_pick [0, 1, 2, 3, 4, 5, 6, 7, 8, 9, 10, 11, 12, 13] rfl (kk g' z' nw I' P' O' _ _ J5 C' ⟨g3 0 0 rfl, fun i hi => g3 13 i (al13 (by rcases (show i = 0 ∨ i = 1 ∨ i = 2 ∨ i = 3 ∨ i = 4 ∨ i = 5 ∨ i = 6 by omega) with rfl | rfl | rfl | rfl | rfl | rfl | rfl <;> rfl))⟩ S5 (Nat.lt_of_lt_of_le hz g5) hn9 (by omega) (by omega))
    ·
      refine g_iconst (v := nI 1) (pc' := 410) C dL_law_409 (by decide) rfl ?_
      refine g_goto (tgt := 425) C dL_law_410 (by decide) ?_
      refine g_iload (pc' := 427) C dL_law_425 rfl rfl ?_
      refine g_aload_n (pc' := 428) C dL_law_427 rfl rfl ?_
      refine g_aload_n (pc' := 429) C dL_law_428 rfl rfl ?_
      refine g_aload (pc' := 431) C dL_law_429 rfl rfl ?_
      refine g_aload (pc' := 433) C dL_law_431 rfl rfl ?_
      refine g_aload (pc' := 435) C dL_law_433 rfl rfl ?_
      refine g_aload (pc' := 437) C dL_law_435 rfl rfl ?_
      refine g_aload (pc' := 439) C dL_law_437 rfl rfl ?_
      refine x_callP (pc' := 442) (mc := 2) (ms := 14) (As := [.ref ((Kg K).2.2 0 0), .int (nI 1), .int v, .ref ((Kg K).2.2 13 0), .ref ((Kg K).2.2 13 1), .ref ((Kg K).2.2 13 2), .ref ((Kg K).2.2 13 3), .ref ((Kg K).2.2 13 4), .ref ((Kg K).2.2 13 5), .ref ((Kg K).2.2 13 6)]) (S := []) C hXK cs_L_125 (fun sz => w_pl_move hfl S hz hn9 sz) dL_law_439 ⟨by decide +kernel, by decide +kernel, (by decide +kernel : (parseMethodDescriptor yL_plans.desc).map (fun d => d.parameters.length) = some 10)⟩ ⟨⟨Nat.le_of_ble_eq_true rfl, Nat.le_of_ble_eq_true rfl⟩, rfl, rfl⟩ rfl (Nat.le_of_ble_eq_true rfl) ⟨show _ ≤ 645988 from by omega, show _ ≤ 7163735 from by omega⟩ rfl (fun sz' v' g' z' I' P' O' hA' hp => ?_)
      obtain ⟨qO, qv, ⟨g1, g2, g3, g4, g5, g6⟩, J5, S5⟩ := hp
      rw [qv, ← nI1']
      have hAl : ∀ k i, wAl z' k i → Ka K (g'.2.2 k i) := fun k i hw => (g4 k i hw).elim (fun ⟨k2, i2, hw2, e2⟩ => by rw [e2]; exact Cx.al C hw2) (hA' _)
      have C' : Cx (Kw K g') cL_law RL 17 (some .boolean) room_1 z' := C.up g1 g2 hAl
      refine g_istore (K := Kw K g') (pc' := 444) C' dL_law_442 rfl rfl ?_
      refine g_goto (tgt := 771) C' dL_law_444 (by decide) ?_
      exact G_pick [0, 1, 2, 3, 4, 5, 6, 7, 8, 9, 10, 11, 12, 13] rfl (kk g' z' nw I' P' O' _ _ J5 C' ⟨g3 0 0 rfl, fun i hi => g3 13 i (al13 (by rcases (show i = 0 ∨ i = 1 ∨ i = 2 ∨ i = 3 ∨ i = 4 ∨ i = 5 ∨ i = 6 by omega) with rfl | rfl | rfl | rfl | rfl | rfl | rfl <;> rfl))⟩ S5 (Nat.lt_of_lt_of_le hz g5) hn9 (by omega) (by omega))
  ·
    refine g_iconst (v := nI 0) (pc' := 399) C dL_law_398 (by decide) rfl ?_
    refine g_goto (tgt := 425) C dL_law_399 (by decide) ?_
    refine g_iload (pc' := 427) C dL_law_425 rfl rfl ?_
    refine g_aload_n (pc' := 428) C dL_law_427 rfl rfl ?_
    refine g_aload_n (pc' := 429) C dL_law_428 rfl rfl ?_
    refine g_aload (pc' := 431) C dL_law_429 rfl rfl ?_
    refine g_aload (pc' := 433) C dL_law_431 rfl rfl ?_
    refine g_aload (pc' := 435) C dL_law_433 rfl rfl ?_
    refine g_aload (pc' := 437) C dL_law_435 rfl rfl ?_
    refine g_aload (pc' := 439) C dL_law_437 rfl rfl ?_
    refine x_callP (pc' := 442) (mc := 2) (ms := 14) (As := [.ref ((Kg K).2.2 0 0), .int (nI 0), .int v, .ref ((Kg K).2.2 13 0), .ref ((Kg K).2.2 13 1), .ref ((Kg K).2.2 13 2), .ref ((Kg K).2.2 13 3), .ref ((Kg K).2.2 13 4), .ref ((Kg K).2.2 13 5), .ref ((Kg K).2.2 13 6)]) (S := []) C hXK cs_L_125 (fun sz => w_pl_plan hfl S hz hn9 sz) dL_law_439 ⟨by decide +kernel, by decide +kernel, (by decide +kernel : (parseMethodDescriptor yL_plans.desc).map (fun d => d.parameters.length) = some 10)⟩ ⟨⟨Nat.le_of_ble_eq_true rfl, Nat.le_of_ble_eq_true rfl⟩, rfl, rfl⟩ rfl (Nat.le_of_ble_eq_true rfl) ⟨show _ ≤ 645988 from by omega, show _ ≤ 7163735 from by omega⟩ rfl (fun sz' v' g' z' I' P' O' hA' hp => ?_)
    obtain ⟨qO, qv, ⟨g1, g2, g3, g4, g5, g6⟩, J5, S5⟩ := hp
    rw [qv, ← nI1']
    have hAl : ∀ k i, wAl z' k i → Ka K (g'.2.2 k i) := fun k i hw => (g4 k i hw).elim (fun ⟨k2, i2, hw2, e2⟩ => by rw [e2]; exact Cx.al C hw2) (hA' _)
    have C' : Cx (Kw K g') cL_law RL 17 (some .boolean) room_1 z' := C.up g1 g2 hAl
    refine g_istore (K := Kw K g') (pc' := 444) C' dL_law_442 rfl rfl ?_
    refine g_goto (tgt := 771) C' dL_law_444 (by decide) ?_
    exact G_pick [0, 1, 2, 3, 4, 5, 6, 7, 8, 9, 10, 11, 12, 13] rfl (kk g' z' nw I' P' O' _ _ J5 C' ⟨g3 0 0 rfl, fun i hi => g3 13 i (al13 (by rcases (show i = 0 ∨ i = 1 ∨ i = 2 ∨ i = 3 ∨ i = 4 ∨ i = 5 ∨ i = 6 by omega) with rfl | rfl | rfl | rfl | rfl | rfl | rfl <;> rfl))⟩ S5 (Nat.lt_of_lt_of_le hz g5) hn9 (by omega) (by omega))
set_option maxRecDepth 20000 in
theorem l_matters {K : wK} {z : wZ} {I : wI} {P : wP} {O : wO} {nw : Nat} {J : wI} {b Ln c n : Nat} {xs : Nat → Int32} (hfl : (Kl K).stackTraces = false) (hXK : XK K) (hX : SX K b Ln xs) (C : Cx K cL_law RL 17 (some .boolean) room_1 z) (S : Stt z nw I P J) (hn9 : nw ≤ 900) (hcc : c + 300 ≤ 645988) (hnn : n + 3000 ≤ 7163735) {turn act : Nat} {e v : Int32} (hz : 0 < z.1) (ha : 18 ≤ act) (ha2 : act < 24) (kk : ∀ (g' : wG) (z' : wZ) (nw' : Nat) (I' : wI) (P' : wP) (O' : wO) (c' n' : Nat) (J' : wI), Cx (Kw K g') cL_law RL 17 (some .boolean) room_1 z' → (g'.2.2 0 0 = (Kg K).2.2 0 0 ∧ ∀ i, i < 7 → g'.2.2 13 i = (Kg K).2.2 13 i) → Stt z' nw' I' P' J' → 0 < z'.1 → nw' ≤ 900 → c' ≤ c + 10 → n' ≤ n + 100 → G (Kw K g') z' I' P' O' c' n' 771 [(0, .ref b), (1, .ref ((Kg K).2.2 0 0)), (2, .ref ((Kg K).2.2 13 0)), (3, .ref ((Kg K).2.2 13 1)), (4, .ref ((Kg K).2.2 13 2)), (5, .ref ((Kg K).2.2 13 3)), (6, .ref ((Kg K).2.2 13 4)), (7, .ref ((Kg K).2.2 13 5)), (8, .ref ((Kg K).2.2 13 6)), (9, .int (nI 1)), (10, .int (nI turn)), (11, .int e), (12, .int (nI act)), (13, .int v)] []) : G K z I P O c n 454 [(0, .ref b), (1, .ref ((Kg K).2.2 0 0)), (2, .ref ((Kg K).2.2 13 0)), (3, .ref ((Kg K).2.2 13 1)), (4, .ref ((Kg K).2.2 13 2)), (5, .ref ((Kg K).2.2 13 3)), (6, .ref ((Kg K).2.2 13 4)), (7, .ref ((Kg K).2.2 13 5)), (8, .ref ((Kg K).2.2 13 6)), (9, .int (nI 1)), (10, .int (nI turn)), (11, .int e), (12, .int (nI act)), (13, .int v)] [] := by
  refine g_aload_n (pc' := 455) C dL_law_454 rfl rfl ?_
  refine g_iload (pc' := 457) C dL_law_455 rfl rfl ?_
  refine g_bipush (v := nI 20) (pc' := 459) C dL_law_457 (by decide) rfl ?_
  refine g_icmp_geN (tgt := 466) (pc' := 462) C (by omega) (by omega) dL_law_459 (by decide) rfl (fun c1 => ?_) (fun c1 => ?_)
  ·
    rcases (show act = 20 ∨ act = 21 ∨ act = 22 ∨ act = 23 by omega) with rfl | rfl | rfl | rfl
    ·
      refine g_iload (pc' := 468) C dL_law_466 rfl rfl ?_
      refine g_bipush (v := nI 19) (pc' := 470) C dL_law_468 (by decide) rfl ?_
      refine g_isubN (r := 1) (pc' := 471) C rfl dL_law_470 rfl ?_
      refine g_iload (pc' := 473) C dL_law_471 rfl rfl ?_
      refine g_aload_n (pc' := 474) C dL_law_473 rfl rfl ?_
      refine g_aload_n (pc' := 475) C dL_law_474 rfl rfl ?_
      refine g_aload (pc' := 477) C dL_law_475 rfl rfl ?_
      refine g_aload (pc' := 479) C dL_law_477 rfl rfl ?_
      refine g_aload (pc' := 481) C dL_law_479 rfl rfl ?_
      refine g_aload (pc' := 483) C dL_law_481 rfl rfl ?_
      refine g_aload (pc' := 485) C dL_law_483 rfl rfl ?_
      refine x_callP (pc' := 488) (mc := 2) (ms := 14) (As := [.ref ((Kg K).2.2 0 0), .int (nI 1), .int v, .ref ((Kg K).2.2 13 0), .ref ((Kg K).2.2 13 1), .ref ((Kg K).2.2 13 2), .ref ((Kg K).2.2 13 3), .ref ((Kg K).2.2 13 4), .ref ((Kg K).2.2 13 5), .ref ((Kg K).2.2 13 6)]) (S := []) C hXK cs_L_129 (fun sz => w_mt_appeal hfl S hz sz) dL_law_485 ⟨by decide +kernel, by decide +kernel, (by decide +kernel : (parseMethodDescriptor yL_matters.desc).map (fun d => d.parameters.length) = some 10)⟩ ⟨⟨Nat.le_of_ble_eq_true rfl, Nat.le_of_ble_eq_true rfl⟩, rfl, rfl⟩ rfl (Nat.le_of_ble_eq_true rfl) ⟨show _ ≤ 645988 from by omega, show _ ≤ 7163735 from by omega⟩ rfl (fun sz' v' g' z' I' P' O' hA' hp => ?_)
      obtain ⟨qO, qv, ⟨g1, g2, g3, g4, g5, g6⟩, J5, S5⟩ := hp
      rw [qv, ← nI1']
      have hAl : ∀ k i, wAl z' k i → Ka K (g'.2.2 k i) := fun k i hw => (g4 k i hw).elim (fun ⟨k2, i2, hw2, e2⟩ => by rw [e2]; exact Cx.al C hw2) (hA' _)
      have C' : Cx (Kw K g') cL_law RL 17 (some .boolean) room_1 z' := C.up g1 g2 hAl
      refine g_istore (K := Kw K g') (pc' := 490) C' dL_law_488 rfl rfl ?_
      refine g_goto (tgt := 771) C' dL_law_490 (by decide) ?_
      exact G_pick [0, 1, 2, 3, 4, 5, 6, 7, 8, 9, 10, 11, 12, 13] rfl (kk g' z' nw I' P' O' _ _ J5 C' ⟨g3 0 0 rfl, fun i hi => g3 13 i (al13 (by rcases (show i = 0 ∨ i = 1 ∨ i = 2 ∨ i = 3 ∨ i = 4 ∨ i = 5 ∨ i = 6 by omega) with rfl | rfl | rfl | rfl | rfl | rfl | rfl <;> rfl))⟩ S5 (Nat.lt_of_lt_of_le hz g5) hn9 (by omega) (by omega))
    ·
      refine g_iload (pc' := 468) C dL_law_466 rfl rfl ?_
      refine g_bipush (v := nI 19) (pc' := 470) C dL_law_468 (by decide) rfl ?_
      refine g_isubN (r := 2) (pc' := 471) C rfl dL_law_470 rfl ?_
      refine g_iload (pc' := 473) C dL_law_471 rfl rfl ?_
      refine g_aload_n (pc' := 474) C dL_law_473 rfl rfl ?_
      refine g_aload_n (pc' := 475) C dL_law_474 rfl rfl ?_
      refine g_aload (pc' := 477) C dL_law_475 rfl rfl ?_
      refine g_aload (pc' := 479) C dL_law_477 rfl rfl ?_
      refine g_aload (pc' := 481) C dL_law_479 rfl rfl ?_
      refine g_aload (pc' := 483) C dL_law_481 rfl rfl ?_
      refine g_aload (pc' := 485) C dL_law_483 rfl rfl ?_
      refine x_callP (pc' := 488) (mc := 2) (ms := 14) (As := [.ref ((Kg K).2.2 0 0), .int (nI 2), .int v, .ref ((Kg K).2.2 13 0), .ref ((Kg K).2.2 13 1), .ref ((Kg K).2.2 13 2), .ref ((Kg K).2.2 13 3), .ref ((Kg K).2.2 13 4), .ref ((Kg K).2.2 13 5), .ref ((Kg K).2.2 13 6)]) (S := []) C hXK cs_L_129 (fun sz => w_mt_settle hfl S hz sz) dL_law_485 ⟨by decide +kernel, by decide +kernel, (by decide +kernel : (parseMethodDescriptor yL_matters.desc).map (fun d => d.parameters.length) = some 10)⟩ ⟨⟨Nat.le_of_ble_eq_true rfl, Nat.le_of_ble_eq_true rfl⟩, rfl, rfl⟩ rfl (Nat.le_of_ble_eq_true rfl) ⟨show _ ≤ 645988 from by omega, show _ ≤ 7163735 from by omega⟩ rfl (fun sz' v' g' z' I' P' O' hA' hp => ?_)
      obtain ⟨qO, qv, ⟨g1, g2, g3, g4, g5, g6⟩, J5, S5⟩ := hp
      rw [qv, ← nI1']
      have hAl : ∀ k i, wAl z' k i → Ka K (g'.2.2 k i) := fun k i hw => (g4 k i hw).elim (fun ⟨k2, i2, hw2, e2⟩ => by rw [e2]; exact Cx.al C hw2) (hA' _)
      have C' : Cx (Kw K g') cL_law RL 17 (some .boolean) room_1 z' := C.up g1 g2 hAl
      refine g_istore (K := Kw K g') (pc' := 490) C' dL_law_488 rfl rfl ?_
      refine g_goto (tgt := 771) C' dL_law_490 (by decide) ?_
      exact G_pick [0, 1, 2, 3, 4, 5, 6, 7, 8, 9, 10, 11, 12, 13] rfl (kk g' z' nw I' P' O' _ _ J5 C' ⟨g3 0 0 rfl, fun i hi => g3 13 i (al13 (by rcases (show i = 0 ∨ i = 1 ∨ i = 2 ∨ i = 3 ∨ i = 4 ∨ i = 5 ∨ i = 6 by omega) with rfl | rfl | rfl | rfl | rfl | rfl | rfl <;> rfl))⟩ S5 (Nat.lt_of_lt_of_le hz g5) hn9 (by omega) (by omega))
    ·
      refine g_iload (pc' := 468) C dL_law_466 rfl rfl ?_
      refine g_bipush (v := nI 19) (pc' := 470) C dL_law_468 (by decide) rfl ?_
      refine g_isubN (r := 3) (pc' := 471) C rfl dL_law_470 rfl ?_
      refine g_iload (pc' := 473) C dL_law_471 rfl rfl ?_
      refine g_aload_n (pc' := 474) C dL_law_473 rfl rfl ?_
      refine g_aload_n (pc' := 475) C dL_law_474 rfl rfl ?_
      refine g_aload (pc' := 477) C dL_law_475 rfl rfl ?_
      refine g_aload (pc' := 479) C dL_law_477 rfl rfl ?_
      refine g_aload (pc' := 481) C dL_law_479 rfl rfl ?_
      refine g_aload (pc' := 483) C dL_law_481 rfl rfl ?_
      refine g_aload (pc' := 485) C dL_law_483 rfl rfl ?_
      refine x_callP (pc' := 488) (mc := 2) (ms := 14) (As := [.ref ((Kg K).2.2 0 0), .int (nI 3), .int v, .ref ((Kg K).2.2 13 0), .ref ((Kg K).2.2 13 1), .ref ((Kg K).2.2 13 2), .ref ((Kg K).2.2 13 3), .ref ((Kg K).2.2 13 4), .ref ((Kg K).2.2 13 5), .ref ((Kg K).2.2 13 6)]) (S := []) C hXK cs_L_129 (fun sz => w_mt_close hfl S hz sz) dL_law_485 ⟨by decide +kernel, by decide +kernel, (by decide +kernel : (parseMethodDescriptor yL_matters.desc).map (fun d => d.parameters.length) = some 10)⟩ ⟨⟨Nat.le_of_ble_eq_true rfl, Nat.le_of_ble_eq_true rfl⟩, rfl, rfl⟩ rfl (Nat.le_of_ble_eq_true rfl) ⟨show _ ≤ 645988 from by omega, show _ ≤ 7163735 from by omega⟩ rfl (fun sz' v' g' z' I' P' O' hA' hp => ?_)
      obtain ⟨qO, qv, ⟨g1, g2, g3, g4, g5, g6⟩, J5, S5⟩ := hp
      rw [qv, ← nI1']
      have hAl : ∀ k i, wAl z' k i → Ka K (g'.2.2 k i) := fun k i hw => (g4 k i hw).elim (fun ⟨k2, i2, hw2, e2⟩ => by rw [e2]; exact Cx.al C hw2) (hA' _)
      have C' : Cx (Kw K g') cL_law RL 17 (some .boolean) room_1 z' := C.up g1 g2 hAl
      refine g_istore (K := Kw K g') (pc' := 490) C' dL_law_488 rfl rfl ?_
      refine g_goto (tgt := 771) C' dL_law_490 (by decide) ?_
      exact G_pick [0, 1, 2, 3, 4, 5, 6, 7, 8, 9, 10, 11, 12, 13] rfl (kk g' z' nw I' P' O' _ _ J5 C' ⟨g3 0 0 rfl, fun i hi => g3 13 i (al13 (by rcases (show i = 0 ∨ i = 1 ∨ i = 2 ∨ i = 3 ∨ i = 4 ∨ i = 5 ∨ i = 6 by omega) with rfl | rfl | rfl | rfl | rfl | rfl | rfl <;> rfl))⟩ S5 (Nat.lt_of_lt_of_le hz g5) hn9 (by omega) (by omega))
    ·
      refine g_iload (pc' := 468) C dL_law_466 rfl rfl ?_
      refine g_bipush (v := nI 19) (pc' := 470) C dL_law_468 (by decide) rfl ?_
      refine g_isubN (r := 4) (pc' := 471) C rfl dL_law_470 rfl ?_
      refine g_iload (pc' := 473) C dL_law_471 rfl rfl ?_
      refine g_aload_n (pc' := 474) C dL_law_473 rfl rfl ?_
      refine g_aload_n (pc' := 475) C dL_law_474 rfl rfl ?_
      refine g_aload (pc' := 477) C dL_law_475 rfl rfl ?_
      refine g_aload (pc' := 479) C dL_law_477 rfl rfl ?_
      refine g_aload (pc' := 481) C dL_law_479 rfl rfl ?_
      refine g_aload (pc' := 483) C dL_law_481 rfl rfl ?_
      refine g_aload (pc' := 485) C dL_law_483 rfl rfl ?_
      refine x_callP (pc' := 488) (mc := 2) (ms := 14) (As := [.ref ((Kg K).2.2 0 0), .int (nI 4), .int v, .ref ((Kg K).2.2 13 0), .ref ((Kg K).2.2 13 1), .ref ((Kg K).2.2 13 2), .ref ((Kg K).2.2 13 3), .ref ((Kg K).2.2 13 4), .ref ((Kg K).2.2 13 5), .ref ((Kg K).2.2 13 6)]) (S := []) C hXK cs_L_129 (fun sz => w_mt_pay hfl S hz sz) dL_law_485 ⟨by decide +kernel, by decide +kernel, (by decide +kernel : (parseMethodDescriptor yL_matters.desc).map (fun d => d.parameters.length) = some 10)⟩ ⟨⟨Nat.le_of_ble_eq_true rfl, Nat.le_of_ble_eq_true rfl⟩, rfl, rfl⟩ rfl (Nat.le_of_ble_eq_true rfl) ⟨show _ ≤ 645988 from by omega, show _ ≤ 7163735 from by omega⟩ rfl (fun sz' v' g' z' I' P' O' hA' hp => ?_)
      obtain ⟨qO, qv, ⟨g1, g2, g3, g4, g5, g6⟩, J5, S5⟩ := hp
      rw [qv, ← nI1']
      have hAl : ∀ k i, wAl z' k i → Ka K (g'.2.2 k i) := fun k i hw => (g4 k i hw).elim (fun ⟨k2, i2, hw2, e2⟩ => by rw [e2]; exact Cx.al C hw2) (hA' _)
      have C' : Cx (Kw K g') cL_law RL 17 (some .boolean) room_1 z' := C.up g1 g2 hAl
      refine g_istore (K := Kw K g') (pc' := 490) C' dL_law_488 rfl rfl ?_
      refine g_goto (tgt := 771) C' dL_law_490 (by decide) ?_
      exact G_pick [0, 1, 2, 3, 4, 5, 6, 7, 8, 9, 10, 11, 12, 13] rfl (kk g' z' nw I' P' O' _ _ J5 C' ⟨g3 0 0 rfl, fun i hi => g3 13 i (al13 (by rcases (show i = 0 ∨ i = 1 ∨ i = 2 ∨ i = 3 ∨ i = 4 ∨ i = 5 ∨ i = 6 by omega) with rfl | rfl | rfl | rfl | rfl | rfl | rfl <;> rfl))⟩ S5 (Nat.lt_of_lt_of_le hz g5) hn9 (by omega) (by omega))
  ·
    refine g_iconst (v := nI 0) (pc' := 463) C dL_law_462 (by decide) rfl ?_
    refine g_goto (tgt := 471) C dL_law_463 (by decide) ?_
    refine g_iload (pc' := 473) C dL_law_471 rfl rfl ?_
    refine g_aload_n (pc' := 474) C dL_law_473 rfl rfl ?_
    refine g_aload_n (pc' := 475) C dL_law_474 rfl rfl ?_
    refine g_aload (pc' := 477) C dL_law_475 rfl rfl ?_
    refine g_aload (pc' := 479) C dL_law_477 rfl rfl ?_
    refine g_aload (pc' := 481) C dL_law_479 rfl rfl ?_
    refine g_aload (pc' := 483) C dL_law_481 rfl rfl ?_
    refine g_aload (pc' := 485) C dL_law_483 rfl rfl ?_
    refine x_callP (pc' := 488) (mc := 2) (ms := 14) (As := [.ref ((Kg K).2.2 0 0), .int (nI 0), .int v, .ref ((Kg K).2.2 13 0), .ref ((Kg K).2.2 13 1), .ref ((Kg K).2.2 13 2), .ref ((Kg K).2.2 13 3), .ref ((Kg K).2.2 13 4), .ref ((Kg K).2.2 13 5), .ref ((Kg K).2.2 13 6)]) (S := []) C hXK cs_L_129 (fun sz => w_mt_decide hfl S hz sz) dL_law_485 ⟨by decide +kernel, by decide +kernel, (by decide +kernel : (parseMethodDescriptor yL_matters.desc).map (fun d => d.parameters.length) = some 10)⟩ ⟨⟨Nat.le_of_ble_eq_true rfl, Nat.le_of_ble_eq_true rfl⟩, rfl, rfl⟩ rfl (Nat.le_of_ble_eq_true rfl) ⟨show _ ≤ 645988 from by omega, show _ ≤ 7163735 from by omega⟩ rfl (fun sz' v' g' z' I' P' O' hA' hp => ?_)
    obtain ⟨qO, qv, ⟨g1, g2, g3, g4, g5, g6⟩, J5, S5⟩ := hp
    rw [qv, ← nI1']
    have hAl : ∀ k i, wAl z' k i → Ka K (g'.2.2 k i) := fun k i hw => (g4 k i hw).elim (fun ⟨k2, i2, hw2, e2⟩ => by rw [e2]; exact Cx.al C hw2) (hA' _)
    have C' : Cx (Kw K g') cL_law RL 17 (some .boolean) room_1 z' := C.up g1 g2 hAl
    refine g_istore (K := Kw K g') (pc' := 490) C' dL_law_488 rfl rfl ?_
    refine g_goto (tgt := 771) C' dL_law_490 (by decide) ?_
    exact G_pick [0, 1, 2, 3, 4, 5, 6, 7, 8, 9, 10, 11, 12, 13] rfl (kk g' z' nw I' P' O' _ _ J5 C' ⟨g3 0 0 rfl, fun i hi => g3 13 i (al13 (by rcases (show i = 0 ∨ i = 1 ∨ i = 2 ∨ i = 3 ∨ i = 4 ∨ i = 5 ∨ i = 6 by omega) with rfl | rfl | rfl | rfl | rfl | rfl | rfl <;> rfl))⟩ S5 (Nat.lt_of_lt_of_le hz g5) hn9 (by omega) (by omega))
set_option maxRecDepth 20000 in
theorem l_itp {K : wK} {z : wZ} {I : wI} {P : wP} {O : wO} {nw : Nat} {J : wI} {b Ln c n : Nat} {xs : Nat → Int32} (hfl : (Kl K).stackTraces = false) (hXK : XK K) (hX : SX K b Ln xs) (C : Cx K cL_law RL 17 (some .boolean) room_1 z) (S : Stt z nw I P J) (hn9 : nw ≤ 900) (hcc : c + 300 ≤ 645988) (hnn : n + 3000 ≤ 7163735) {turn act : Nat} {e v : Int32} (hz : 0 < z.1) (kk : ∀ (g' : wG) (z' : wZ) (nw' : Nat) (I' : wI) (P' : wP) (O' : wO) (c' n' : Nat) (J' : wI), Cx (Kw K g') cL_law RL 17 (some .boolean) room_1 z' → (g'.2.2 0 0 = (Kg K).2.2 0 0 ∧ ∀ i, i < 7 → g'.2.2 13 i = (Kg K).2.2 13 i) → Stt z' nw' I' P' J' → 0 < z'.1 → nw' ≤ 900 → c' ≤ c + 10 → n' ≤ n + 100 → G (Kw K g') z' I' P' O' c' n' 771 [(0, .ref b), (1, .ref ((Kg K).2.2 0 0)), (2, .ref ((Kg K).2.2 13 0)), (3, .ref ((Kg K).2.2 13 1)), (4, .ref ((Kg K).2.2 13 2)), (5, .ref ((Kg K).2.2 13 3)), (6, .ref ((Kg K).2.2 13 4)), (7, .ref ((Kg K).2.2 13 5)), (8, .ref ((Kg K).2.2 13 6)), (9, .int (nI 1)), (10, .int (nI turn)), (11, .int e), (12, .int (nI act)), (13, .int v)] []) : G K z I P O c n 500 [(0, .ref b), (1, .ref ((Kg K).2.2 0 0)), (2, .ref ((Kg K).2.2 13 0)), (3, .ref ((Kg K).2.2 13 1)), (4, .ref ((Kg K).2.2 13 2)), (5, .ref ((Kg K).2.2 13 3)), (6, .ref ((Kg K).2.2 13 4)), (7, .ref ((Kg K).2.2 13 5)), (8, .ref ((Kg K).2.2 13 6)), (9, .int (nI 1)), (10, .int (nI turn)), (11, .int e), (12, .int (nI act)), (13, .int v)] [] := by
  refine g_iload (pc' := 502) C dL_law_500 rfl rfl ?_
  refine g_iconst (v := nI 4) (pc' := 503) C dL_law_502 (by decide) rfl ?_
  refine g_callS (pc' := 506) (As := [.int (v), .int (nI 4)]) (S := []) C cs_L_65 (w_low (b := 4) (by omega) (by omega)) dL_law_503 ⟨rfl, by decide +kernel, by decide +kernel, (by decide +kernel : (parseMethodDescriptor yL_low.desc).map (fun d => d.parameters.length) = some 2)⟩ ⟨⟨Nat.le_of_ble_eq_true rfl, Nat.le_of_ble_eq_true rfl⟩, rfl, rfl⟩ rfl (Nat.le_of_ble_eq_true rfl) ⟨show _ ≤ 645988 from by omega, show _ ≤ 7163735 from by omega⟩ rfl (fun v1 I1 P1 q => ?_)
  obtain ⟨rfl, q1, q2⟩ := q
  rw [q1, q2]
  obtain ⟨k, hk, ek⟩ : ∃ r, r < 4 ∧ lowN (v) 4 = r := ⟨_, lowN_lt (by omega), rfl⟩
  rw [ek]
  refine g_istore (pc' := 508) C dL_law_506 rfl rfl ?_
  refine g_aload (pc' := 510) C dL_law_508 rfl rfl ?_
  refine g_iconst (v := nI 4) (pc' := 511) C dL_law_510 (by decide) rfl ?_
  refine g_iload (pc' := 513) C dL_law_511 rfl rfl ?_
  refine g_iaddN (pc' := 514) C dL_law_513 rfl ?_
  have hw3 : I 13 5 (4 + k) = J 13 3 k := (S.y.w.1 k hk).2.1
  refine g_iald (pc' := 515) C (4 + k) rfl (by show _ < 14; omega) dL_law_514 (al13 rfl) rfl rfl rfl ?_
  rw [hw3]
  refine g_istore (pc' := 517) C dL_law_515 rfl rfl ?_
  refine g_aload (pc' := 519) C dL_law_517 rfl rfl ?_
  refine g_iload (pc' := 521) C dL_law_519 rfl rfl ?_
  refine g_iload (pc' := 523) C dL_law_521 rfl rfl ?_
  refine g_iconst (v := nI 2) (pc' := 524) C dL_law_523 (by decide) rfl ?_
  refine g_ishr (pc' := 525) C dL_law_524 rfl ?_
  refine g_bipush (v := nI 16) (pc' := 527) C dL_law_525 (by decide) rfl ?_
  refine g_callS (pc' := 530) (As := [.int (v >>> (nI 2 &&& 31)), .int (nI 16)]) (S := [.int (nI k), .ref ((Kg K).2.2 13 5)]) C cs_L_65 (w_low (b := 16) (by omega) (by omega)) dL_law_527 ⟨rfl, by decide +kernel, by decide +kernel, (by decide +kernel : (parseMethodDescriptor yL_low.desc).map (fun d => d.parameters.length) = some 2)⟩ ⟨⟨Nat.le_of_ble_eq_true rfl, Nat.le_of_ble_eq_true rfl⟩, rfl, rfl⟩ rfl (Nat.le_of_ble_eq_true rfl) ⟨show _ ≤ 645988 from by omega, show _ ≤ 7163735 from by omega⟩ rfl (fun v1 I1 P1 q => ?_)
  obtain ⟨rfl, q1, q2⟩ := q
  rw [q1, q2]
  obtain ⟨y, hy, ey⟩ : ∃ r, r < 16 ∧ lowN (v >>> (nI 2 &&& 31)) 16 = r := ⟨_, lowN_lt (by omega), rfl⟩
  rw [ey]
  refine g_iast (pc' := 531) C (k) rfl (by show _ < 14; omega) dL_law_530 (al13 rfl) (fun _ => rfl) rfl rfl ?_
  refine g_aload (pc' := 533) C dL_law_531 rfl rfl ?_
  refine g_iconst (v := nI 4) (pc' := 534) C dL_law_533 (by decide) rfl ?_
  refine g_iload (pc' := 536) C dL_law_534 rfl rfl ?_
  refine g_iaddN (pc' := 537) C dL_law_536 rfl ?_
  refine g_iconst (v := nI 1) (pc' := 538) C dL_law_537 (by decide) rfl ?_
  refine g_iload (pc' := 540) C dL_law_538 rfl rfl ?_
  refine g_bipush (v := nI 6) (pc' := 542) C dL_law_540 (by decide) rfl ?_
  refine g_ishr (pc' := 543) C dL_law_542 rfl ?_
  refine g_bipush (v := nI 60) (pc' := 545) C dL_law_543 (by decide) rfl ?_
  refine g_callS (pc' := 548) (As := [.int (v >>> (nI 6 &&& 31)), .int (nI 60)]) (S := [.int (nI 1), .int (nI (4 + k)), .ref ((Kg K).2.2 13 5)]) C cs_L_65 (w_low (b := 60) (by omega) (by omega)) dL_law_545 ⟨rfl, by decide +kernel, by decide +kernel, (by decide +kernel : (parseMethodDescriptor yL_low.desc).map (fun d => d.parameters.length) = some 2)⟩ ⟨⟨Nat.le_of_ble_eq_true rfl, Nat.le_of_ble_eq_true rfl⟩, rfl, rfl⟩ rfl (Nat.le_of_ble_eq_true rfl) ⟨show _ ≤ 645988 from by omega, show _ ≤ 7163735 from by omega⟩ rfl (fun v1 I1 P1 q => ?_)
  obtain ⟨rfl, q1, q2⟩ := q
  rw [q1, q2]
  obtain ⟨p, hp, ep⟩ : ∃ r, r < 60 ∧ lowN (v >>> (nI 6 &&& 31)) 60 = r := ⟨_, lowN_lt (by omega), rfl⟩
  rw [ep]
  refine g_iaddN (pc' := 549) C dL_law_548 rfl ?_
  refine g_iast (pc' := 550) C (4 + k) rfl (by show _ < 14; omega) dL_law_549 (al13 rfl) (fun _ => rfl) rfl rfl ?_
  have hO : Oth I (upI (upI I 13 5 (k) (nI y)) 13 5 (4 + k) (nI (1 + p))) := Oth.rf.up.up
  have Y2 : YS (fun _ => False) z nw (upI (upI J 13 2 k (nI y)) 13 3 k (nI (1 + p))) ((upI (upI I 13 5 (k) (nI y)) 13 5 (4 + k) (nI (1 + p))) 13) := by
    rw [upI_13, upI_13]
    exact S.y.it hk (by omega)
  obtain ⟨hk0, hv, J2, S5⟩ := fin_it S hO hk (by omega) (by omega) (by omega) Y2
  have r1 : (upI (upI I 13 5 (k) (nI y)) 13 5 (4 + k) (nI (1 + p))) 13 5 k = nI y := by rw [upI_at, if_neg (by omega), upI_at, if_pos ⟨rfl, rfl, rfl⟩]
  have r2 : (upI (upI I 13 5 (k) (nI y)) 13 5 (4 + k) (nI (1 + p))) 13 5 (4 + k) = nI (1 + p) := by rw [upI_at, if_pos ⟨rfl, rfl, rfl⟩]
  clear Y2
  generalize (upI (upI I 13 5 (k) (nI y)) 13 5 (4 + k) (nI (1 + p))) = I3 at hO hk0 hv S5 r1 r2 ⊢
  refine g_aload_n (pc' := 551) C dL_law_550 rfl rfl ?_
  refine g_iload (pc' := 553) C dL_law_551 rfl rfl ?_
  refine g_aload (pc' := 555) C dL_law_553 rfl rfl ?_
  refine g_iload (pc' := 557) C dL_law_555 rfl rfl ?_
  refine g_iald (pc' := 558) C (k) rfl (by show _ < 14; omega) dL_law_557 (al13 rfl) rfl rfl rfl ?_
  rw [r1]
  refine g_aload (pc' := 560) C dL_law_558 rfl rfl ?_
  refine g_iconst (v := nI 4) (pc' := 561) C dL_law_560 (by decide) rfl ?_
  refine g_iload (pc' := 563) C dL_law_561 rfl rfl ?_
  refine g_iaddN (pc' := 564) C dL_law_563 rfl ?_
  refine g_iald (pc' := 565) C (4 + k) rfl (by show _ < 14; omega) dL_law_564 (al13 rfl) rfl rfl rfl ?_
  rw [r2]
  refine x_callV (pc' := 568) (mc := 1) (ms := 6) (As := [.int (nI k), .int (nI y), .int (nI (1 + p))]) (S := []) (post := fun _ => pX (cK0 (nI k) (nI y) (nI (1 + p))) (Kg K) z (some (.int (I3 1 (nI k).toNatClampNeg 1))) (cO0 I3 (nI k) (nI y) (nI (1 + p))) P O) C hXK cv_L_119 (fun sz => m_X3_interpreter hfl (S.s.oth hO).X sz) dL_law_565 (by first | assumption | exact rfl | exact al13 rfl | exact Nat.le_of_ble_eq_true rfl) rfl rfl ⟨rfl, by decide +kernel, by decide +kernel, (by decide +kernel : (parseMethodDescriptor yX3_interpreter.desc).map (fun d => d.parameters.length) = some 3)⟩ ⟨⟨Nat.le_of_ble_eq_true rfl, Nat.le_of_ble_eq_true rfl⟩, rfl, rfl⟩ rfl (Nat.le_of_ble_eq_true rfl) ⟨show _ ≤ 645988 from by omega, show _ ≤ 7163735 from by omega⟩ rfl (fun E hE => ?_) (fun sz' v' g' z' I' P' O' hA' hp => ?_)
  · obtain ⟨q, hq, hkq⟩ := hE
    rw [hk0] at hkq
    subst hkq
    simp only [List.mem_cons, List.not_mem_nil, or_false, Prod.mk.injEq] at hq
    rcases hq with ⟨q, -⟩ | ⟨q, -⟩ <;> exact absurd q (by decide)
  obtain ⟨hkq, qv, qg, qz, qI, qP, qO⟩ := hp
  rw [qv, qg, qz, qI, qP, qO, Kw_self]
  clear hkq qv qg qz qI qP qO
  rw [hv]
  generalize cO0 I3 (nI k) (nI y) (nI (1 + p)) = I2 at S5 ⊢
  refine g_iload (pc' := 570) C dL_law_568 rfl rfl ?_
  refine g_icmp_ne (tgt := 577) (pc' := 573) C dL_law_570 (by decide) rfl (fun c1 => absurd rfl c1) (fun c1 => ?_)
  refine g_iconst (v := nI 1) (pc' := 574) C dL_law_573 (by decide) rfl ?_
  refine g_goto (tgt := 578) C dL_law_574 (by decide) ?_
  refine g_istore (pc' := 580) C dL_law_578 rfl rfl ?_
  refine g_goto (tgt := 771) C dL_law_580 (by decide) ?_
  exact G_pick [0, 1, 2, 3, 4, 5, 6, 7, 8, 9, 10, 11, 12, 13] rfl (kk (Kg K) z nw I2 P O _ _ J2 C ⟨rfl, fun _ _ => rfl⟩ S5 hz hn9 (by omega) (by omega))
set_option maxRecDepth 20000 in
theorem l_waive {K : wK} {z : wZ} {I : wI} {P : wP} {O : wO} {nw : Nat} {J : wI} {b Ln c n : Nat} {xs : Nat → Int32} (hfl : (Kl K).stackTraces = false) (hXK : XK K) (hX : SX K b Ln xs) (C : Cx K cL_law RL 17 (some .boolean) room_1 z) (S : Stt z nw I P J) (hn9 : nw ≤ 900) (hcc : c + 300 ≤ 645988) (hnn : n + 3000 ≤ 7163735) {turn act : Nat} {e v : Int32} (hz : 0 < z.1) (kk : ∀ (g' : wG) (z' : wZ) (nw' : Nat) (I' : wI) (P' : wP) (O' : wO) (c' n' : Nat) (J' : wI), Cx (Kw K g') cL_law RL 17 (some .boolean) room_1 z' → (g'.2.2 0 0 = (Kg K).2.2 0 0 ∧ ∀ i, i < 7 → g'.2.2 13 i = (Kg K).2.2 13 i) → Stt z' nw' I' P' J' → 0 < z'.1 → nw' ≤ 900 → c' ≤ c + 10 → n' ≤ n + 100 → G (Kw K g') z' I' P' O' c' n' 771 [(0, .ref b), (1, .ref ((Kg K).2.2 0 0)), (2, .ref ((Kg K).2.2 13 0)), (3, .ref ((Kg K).2.2 13 1)), (4, .ref ((Kg K).2.2 13 2)), (5, .ref ((Kg K).2.2 13 3)), (6, .ref ((Kg K).2.2 13 4)), (7, .ref ((Kg K).2.2 13 5)), (8, .ref ((Kg K).2.2 13 6)), (9, .int (nI 1)), (10, .int (nI turn)), (11, .int e), (12, .int (nI act)), (13, .int v)] []) : G K z I P O c n 590 [(0, .ref b), (1, .ref ((Kg K).2.2 0 0)), (2, .ref ((Kg K).2.2 13 0)), (3, .ref ((Kg K).2.2 13 1)), (4, .ref ((Kg K).2.2 13 2)), (5, .ref ((Kg K).2.2 13 3)), (6, .ref ((Kg K).2.2 13 4)), (7, .ref ((Kg K).2.2 13 5)), (8, .ref ((Kg K).2.2 13 6)), (9, .int (nI 1)), (10, .int (nI turn)), (11, .int e), (12, .int (nI act)), (13, .int v)] [] := by
  refine g_iload (pc' := 592) C dL_law_590 rfl rfl ?_
  refine g_bipush (v := nI 6) (pc' := 594) C dL_law_592 (by decide) rfl ?_
  refine g_callS (pc' := 597) (As := [.int (v), .int (nI 6)]) (S := []) C cs_L_65 (w_low (b := 6) (by omega) (by omega)) dL_law_594 ⟨rfl, by decide +kernel, by decide +kernel, (by decide +kernel : (parseMethodDescriptor yL_low.desc).map (fun d => d.parameters.length) = some 2)⟩ ⟨⟨Nat.le_of_ble_eq_true rfl, Nat.le_of_ble_eq_true rfl⟩, rfl, rfl⟩ rfl (Nat.le_of_ble_eq_true rfl) ⟨show _ ≤ 645988 from by omega, show _ ≤ 7163735 from by omega⟩ rfl (fun v1 I1 P1 q => ?_)
  obtain ⟨rfl, q1, q2⟩ := q
  rw [q1, q2]
  obtain ⟨p, hp, ep⟩ : ∃ r, r < 6 ∧ lowN (v) 6 = r := ⟨_, lowN_lt (by omega), rfl⟩
  rw [ep]
  refine g_istore (pc' := 599) C dL_law_597 rfl rfl ?_
  refine g_aload (pc' := 601) C dL_law_599 rfl rfl ?_
  refine g_bipush (v := nI 8) (pc' := 603) C dL_law_601 (by decide) rfl ?_
  refine g_iload (pc' := 605) C dL_law_603 rfl rfl ?_
  refine g_iaddN (pc' := 606) C dL_law_605 rfl ?_
  have hw3 : I 13 5 (8 + p) = J 13 4 p := (S.y.w.2 p hp).1
  refine g_iald (pc' := 607) C (8 + p) rfl (by show _ < 14; omega) dL_law_606 (al13 rfl) rfl rfl rfl ?_
  rw [hw3]
  refine g_iconst (v := nI 1) (pc' := 608) C dL_law_607 (by decide) rfl ?_
  refine g_icmp_ne (tgt := 615) (pc' := 611) C dL_law_608 (by decide) rfl (fun c1 => ?_) (fun c1 => ?_)
  ·
    have hw0 : J 13 4 p = nI 0 := ((S.y.w.2 p hp).2.resolve_right (fun e => c1 (by rw [e, nI1']))).trans nI_0.symm
    refine g_iconst (v := nI 0) (pc' := 616) C dL_law_615 (by decide) rfl ?_
    refine g_istore (pc' := 618) C dL_law_616 rfl rfl ?_
    refine g_aload (pc' := 620) C dL_law_618 rfl rfl ?_
    refine g_bipush (v := nI 8) (pc' := 622) C dL_law_620 (by decide) rfl ?_
    refine g_iload (pc' := 624) C dL_law_622 rfl rfl ?_
    refine g_iaddN (pc' := 625) C dL_law_624 rfl ?_
    refine g_iload (pc' := 627) C dL_law_625 rfl rfl ?_
    refine g_iconst (v := nI 3) (pc' := 628) C dL_law_627 (by decide) rfl ?_
    refine g_ishr (pc' := 629) C dL_law_628 rfl ?_
    refine g_iconst (v := nI 2) (pc' := 630) C dL_law_629 (by decide) rfl ?_
    refine g_callS (pc' := 633) (As := [.int (v >>> (nI 3 &&& 31)), .int (nI 2)]) (S := [.int (nI (8 + p)), .ref ((Kg K).2.2 13 5)]) C cs_L_65 (w_low (b := 2) (by omega) (by omega)) dL_law_630 ⟨rfl, by decide +kernel, by decide +kernel, (by decide +kernel : (parseMethodDescriptor yL_low.desc).map (fun d => d.parameters.length) = some 2)⟩ ⟨⟨Nat.le_of_ble_eq_true rfl, Nat.le_of_ble_eq_true rfl⟩, rfl, rfl⟩ rfl (Nat.le_of_ble_eq_true rfl) ⟨show _ ≤ 645988 from by omega, show _ ≤ 7163735 from by omega⟩ rfl (fun v1 I1 P1 q => ?_)
    obtain ⟨rfl, q1, q2⟩ := q
    rw [q1, q2]
    obtain ⟨wv, hwv, ewv⟩ : ∃ r, r < 2 ∧ lowN (v >>> (nI 3 &&& 31)) 2 = r := ⟨_, lowN_lt (by omega), rfl⟩
    rw [ewv]
    refine g_iast (pc' := 634) C (8 + p) rfl (by show _ < 14; omega) dL_law_633 (al13 rfl) (fun _ => rfl) rfl rfl ?_
    have hO : Oth I (upI I 13 5 (8 + p) (nI wv)) := Oth.rf.up
    have Y2 : YS (fun _ => False) z nw (upI J 13 4 p (nI wv)) ((upI I 13 5 (8 + p) (nI wv)) 13) := by
      rw [upI_13]
      exact S.y.wv hp (by rcases (show wv = 0 ∨ wv = 1 by omega) with rfl | rfl <;> decide)
    obtain ⟨hk0, hv, h01, J2, S5⟩ := fin_wv S hO hp hwv Y2
    have r1 : (upI I 13 5 (8 + p) (nI wv)) 13 5 (8 + p) = nI wv := by rw [upI_at, if_pos ⟨rfl, rfl, rfl⟩]
    clear Y2
    generalize (upI I 13 5 (8 + p) (nI wv)) = I3 at hO hk0 hv h01 S5 r1 ⊢
    refine g_aload_n (pc' := 635) C dL_law_634 rfl rfl ?_
    refine g_iload (pc' := 637) C dL_law_635 rfl rfl ?_
    refine g_aload (pc' := 639) C dL_law_637 rfl rfl ?_
    refine g_bipush (v := nI 8) (pc' := 641) C dL_law_639 (by decide) rfl ?_
    refine g_iload (pc' := 643) C dL_law_641 rfl rfl ?_
    refine g_iaddN (pc' := 644) C dL_law_643 rfl ?_
    refine g_iald (pc' := 645) C (8 + p) rfl (by show _ < 14; omega) dL_law_644 (al13 rfl) rfl rfl rfl ?_
    rw [r1]
    refine g_iconst (v := nI 1) (pc' := 646) C dL_law_645 (by decide) rfl ?_
    refine g_icmp_neN (tgt := 653) (pc' := 649) C (by omega) (by omega) dL_law_646 (by decide) rfl (fun c2 => ?_) (fun c2 => ?_)
    ·
      have hwe : wv = 0 := by omega
      refine g_iconst (v := nI 0) (pc' := 654) C dL_law_653 (by decide) rfl ?_
      refine x_callV (pc' := 657) (mc := 1) (ms := 6) (As := [.int (nI p), .int (nI 0)]) (S := []) (post := fun _ => pX (cK1 (nI p)) (Kg K) z (some (.int (I3 5 0 (nI p).toNatClampNeg))) (upI I3 5 0 (nI p).toNatClampNeg (nI 0)) P O) C hXK cv_L_132 (fun sz => m_X3_waive hfl rfl h01 sz) dL_law_654 (by first | assumption | exact rfl | exact al13 rfl | exact Nat.le_of_ble_eq_true rfl) rfl rfl ⟨rfl, by decide +kernel, by decide +kernel, (by decide +kernel : (parseMethodDescriptor yX3_waive.desc).map (fun d => d.parameters.length) = some 2)⟩ ⟨⟨Nat.le_of_ble_eq_true rfl, Nat.le_of_ble_eq_true rfl⟩, rfl, rfl⟩ rfl (Nat.le_of_ble_eq_true rfl) ⟨show _ ≤ 645988 from by omega, show _ ≤ 7163735 from by omega⟩ rfl (fun E hE => ?_) (fun sz' v' g' z' I' P' O' hA' hp => ?_)
      · obtain ⟨q, hq, hkq⟩ := hE
        rw [hk0] at hkq
        subst hkq
        simp only [List.mem_cons, List.not_mem_nil, or_false, Prod.mk.injEq] at hq
        exact absurd hq.1 (by decide)
      obtain ⟨hkq, qv, qg, qz, qI, qP, qO⟩ := hp
      rw [qv, qg, qz, qI, qP, qO, Kw_self]
      clear hkq qv qg qz qI qP qO
      rw [hv]
      rw [show wv = 0 by omega] at S5
      generalize upI I3 5 0 (nI p).toNatClampNeg (nI 0) = I2 at S5 ⊢
      refine g_iload (pc' := 659) C dL_law_657 rfl rfl ?_
      refine g_icmp_ne (tgt := 666) (pc' := 662) C dL_law_659 (by decide) rfl (fun c3 => absurd hw0 c3) (fun c3 => ?_)
      refine g_iconst (v := nI 1) (pc' := 663) C dL_law_662 (by decide) rfl ?_
      refine g_goto (tgt := 667) C dL_law_663 (by decide) ?_
      refine g_istore (pc' := 669) C dL_law_667 rfl rfl ?_
      refine g_goto (tgt := 771) C dL_law_669 (by decide) ?_
      exact G_pick [0, 1, 2, 3, 4, 5, 6, 7, 8, 9, 10, 11, 12, 13] rfl (kk (Kg K) z nw I2 P O _ _ J2 C ⟨rfl, fun _ _ => rfl⟩ S5 hz hn9 (by omega) (by omega))
    ·
      have hwe : wv = 1 := c2
      refine g_iconst (v := nI 1) (pc' := 650) C dL_law_649 (by decide) rfl ?_
      refine g_goto (tgt := 654) C dL_law_650 (by decide) ?_
      refine x_callV (pc' := 657) (mc := 1) (ms := 6) (As := [.int (nI p), .int (nI 1)]) (S := []) (post := fun _ => pX (cK1 (nI p)) (Kg K) z (some (.int (I3 5 0 (nI p).toNatClampNeg))) (upI I3 5 0 (nI p).toNatClampNeg (nI 1)) P O) C hXK cv_L_132 (fun sz => m_X3_waive hfl rfl h01 sz) dL_law_654 (by first | assumption | exact rfl | exact al13 rfl | exact Nat.le_of_ble_eq_true rfl) rfl rfl ⟨rfl, by decide +kernel, by decide +kernel, (by decide +kernel : (parseMethodDescriptor yX3_waive.desc).map (fun d => d.parameters.length) = some 2)⟩ ⟨⟨Nat.le_of_ble_eq_true rfl, Nat.le_of_ble_eq_true rfl⟩, rfl, rfl⟩ rfl (Nat.le_of_ble_eq_true rfl) ⟨show _ ≤ 645988 from by omega, show _ ≤ 7163735 from by omega⟩ rfl (fun E hE => ?_) (fun sz' v' g' z' I' P' O' hA' hp => ?_)
      · obtain ⟨q, hq, hkq⟩ := hE
        rw [hk0] at hkq
        subst hkq
        simp only [List.mem_cons, List.not_mem_nil, or_false, Prod.mk.injEq] at hq
        exact absurd hq.1 (by decide)
      obtain ⟨hkq, qv, qg, qz, qI, qP, qO⟩ := hp
      rw [qv, qg, qz, qI, qP, qO, Kw_self]
      clear hkq qv qg qz qI qP qO
      rw [hv]
      rw [show wv = 1 by omega] at S5
      generalize upI I3 5 0 (nI p).toNatClampNeg (nI 1) = I2 at S5 ⊢
      refine g_iload (pc' := 659) C dL_law_657 rfl rfl ?_
      refine g_icmp_ne (tgt := 666) (pc' := 662) C dL_law_659 (by decide) rfl (fun c4 => absurd hw0 c4) (fun c4 => ?_)
      refine g_iconst (v := nI 1) (pc' := 663) C dL_law_662 (by decide) rfl ?_
      refine g_goto (tgt := 667) C dL_law_663 (by decide) ?_
      refine g_istore (pc' := 669) C dL_law_667 rfl rfl ?_
      refine g_goto (tgt := 771) C dL_law_669 (by decide) ?_
      exact G_pick [0, 1, 2, 3, 4, 5, 6, 7, 8, 9, 10, 11, 12, 13] rfl (kk (Kg K) z nw I2 P O _ _ J2 C ⟨rfl, fun _ _ => rfl⟩ S5 hz hn9 (by omega) (by omega))
  ·
    have hw0 : J 13 4 p = nI 1 := c1
    refine g_iconst (v := nI 1) (pc' := 612) C dL_law_611 (by decide) rfl ?_
    refine g_goto (tgt := 616) C dL_law_612 (by decide) ?_
    refine g_istore (pc' := 618) C dL_law_616 rfl rfl ?_
    refine g_aload (pc' := 620) C dL_law_618 rfl rfl ?_
    refine g_bipush (v := nI 8) (pc' := 622) C dL_law_620 (by decide) rfl ?_
    refine g_iload (pc' := 624) C dL_law_622 rfl rfl ?_
    refine g_iaddN (pc' := 625) C dL_law_624 rfl ?_
    refine g_iload (pc' := 627) C dL_law_625 rfl rfl ?_
    refine g_iconst (v := nI 3) (pc' := 628) C dL_law_627 (by decide) rfl ?_
    refine g_ishr (pc' := 629) C dL_law_628 rfl ?_
    refine g_iconst (v := nI 2) (pc' := 630) C dL_law_629 (by decide) rfl ?_
    refine g_callS (pc' := 633) (As := [.int (v >>> (nI 3 &&& 31)), .int (nI 2)]) (S := [.int (nI (8 + p)), .ref ((Kg K).2.2 13 5)]) C cs_L_65 (w_low (b := 2) (by omega) (by omega)) dL_law_630 ⟨rfl, by decide +kernel, by decide +kernel, (by decide +kernel : (parseMethodDescriptor yL_low.desc).map (fun d => d.parameters.length) = some 2)⟩ ⟨⟨Nat.le_of_ble_eq_true rfl, Nat.le_of_ble_eq_true rfl⟩, rfl, rfl⟩ rfl (Nat.le_of_ble_eq_true rfl) ⟨show _ ≤ 645988 from by omega, show _ ≤ 7163735 from by omega⟩ rfl (fun v1 I1 P1 q => ?_)
    obtain ⟨rfl, q1, q2⟩ := q
    rw [q1, q2]
    obtain ⟨wv, hwv, ewv⟩ : ∃ r, r < 2 ∧ lowN (v >>> (nI 3 &&& 31)) 2 = r := ⟨_, lowN_lt (by omega), rfl⟩
    rw [ewv]
    refine g_iast (pc' := 634) C (8 + p) rfl (by show _ < 14; omega) dL_law_633 (al13 rfl) (fun _ => rfl) rfl rfl ?_
    have hO : Oth I (upI I 13 5 (8 + p) (nI wv)) := Oth.rf.up
    have Y2 : YS (fun _ => False) z nw (upI J 13 4 p (nI wv)) ((upI I 13 5 (8 + p) (nI wv)) 13) := by
      rw [upI_13]
      exact S.y.wv hp (by rcases (show wv = 0 ∨ wv = 1 by omega) with rfl | rfl <;> decide)
    obtain ⟨hk0, hv, h01, J2, S5⟩ := fin_wv S hO hp hwv Y2
    have r1 : (upI I 13 5 (8 + p) (nI wv)) 13 5 (8 + p) = nI wv := by rw [upI_at, if_pos ⟨rfl, rfl, rfl⟩]
    clear Y2
    generalize (upI I 13 5 (8 + p) (nI wv)) = I3 at hO hk0 hv h01 S5 r1 ⊢
    refine g_aload_n (pc' := 635) C dL_law_634 rfl rfl ?_
    refine g_iload (pc' := 637) C dL_law_635 rfl rfl ?_
    refine g_aload (pc' := 639) C dL_law_637 rfl rfl ?_
    refine g_bipush (v := nI 8) (pc' := 641) C dL_law_639 (by decide) rfl ?_
    refine g_iload (pc' := 643) C dL_law_641 rfl rfl ?_
    refine g_iaddN (pc' := 644) C dL_law_643 rfl ?_
    refine g_iald (pc' := 645) C (8 + p) rfl (by show _ < 14; omega) dL_law_644 (al13 rfl) rfl rfl rfl ?_
    rw [r1]
    refine g_iconst (v := nI 1) (pc' := 646) C dL_law_645 (by decide) rfl ?_
    refine g_icmp_neN (tgt := 653) (pc' := 649) C (by omega) (by omega) dL_law_646 (by decide) rfl (fun c5 => ?_) (fun c5 => ?_)
    ·
      have hwe : wv = 0 := by omega
      refine g_iconst (v := nI 0) (pc' := 654) C dL_law_653 (by decide) rfl ?_
      refine x_callV (pc' := 657) (mc := 1) (ms := 6) (As := [.int (nI p), .int (nI 0)]) (S := []) (post := fun _ => pX (cK1 (nI p)) (Kg K) z (some (.int (I3 5 0 (nI p).toNatClampNeg))) (upI I3 5 0 (nI p).toNatClampNeg (nI 0)) P O) C hXK cv_L_132 (fun sz => m_X3_waive hfl rfl h01 sz) dL_law_654 (by first | assumption | exact rfl | exact al13 rfl | exact Nat.le_of_ble_eq_true rfl) rfl rfl ⟨rfl, by decide +kernel, by decide +kernel, (by decide +kernel : (parseMethodDescriptor yX3_waive.desc).map (fun d => d.parameters.length) = some 2)⟩ ⟨⟨Nat.le_of_ble_eq_true rfl, Nat.le_of_ble_eq_true rfl⟩, rfl, rfl⟩ rfl (Nat.le_of_ble_eq_true rfl) ⟨show _ ≤ 645988 from by omega, show _ ≤ 7163735 from by omega⟩ rfl (fun E hE => ?_) (fun sz' v' g' z' I' P' O' hA' hp => ?_)
      · obtain ⟨q, hq, hkq⟩ := hE
        rw [hk0] at hkq
        subst hkq
        simp only [List.mem_cons, List.not_mem_nil, or_false, Prod.mk.injEq] at hq
        exact absurd hq.1 (by decide)
      obtain ⟨hkq, qv, qg, qz, qI, qP, qO⟩ := hp
      rw [qv, qg, qz, qI, qP, qO, Kw_self]
      clear hkq qv qg qz qI qP qO
      rw [hv]
      rw [show wv = 0 by omega] at S5
      generalize upI I3 5 0 (nI p).toNatClampNeg (nI 0) = I2 at S5 ⊢
      refine g_iload (pc' := 659) C dL_law_657 rfl rfl ?_
      refine g_icmp_ne (tgt := 666) (pc' := 662) C dL_law_659 (by decide) rfl (fun c6 => absurd hw0 c6) (fun c6 => ?_)
      refine g_iconst (v := nI 1) (pc' := 663) C dL_law_662 (by decide) rfl ?_
      refine g_goto (tgt := 667) C dL_law_663 (by decide) ?_
      refine g_istore (pc' := 669) C dL_law_667 rfl rfl ?_
      refine g_goto (tgt := 771) C dL_law_669 (by decide) ?_
      exact G_pick [0, 1, 2, 3, 4, 5, 6, 7, 8, 9, 10, 11, 12, 13] rfl (kk (Kg K) z nw I2 P O _ _ J2 C ⟨rfl, fun _ _ => rfl⟩ S5 hz hn9 (by omega) (by omega))
    ·
      have hwe : wv = 1 := c5
      refine g_iconst (v := nI 1) (pc' := 650) C dL_law_649 (by decide) rfl ?_
      refine g_goto (tgt := 654) C dL_law_650 (by decide) ?_
      refine x_callV (pc' := 657) (mc := 1) (ms := 6) (As := [.int (nI p), .int (nI 1)]) (S := []) (post := fun _ => pX (cK1 (nI p)) (Kg K) z (some (.int (I3 5 0 (nI p).toNatClampNeg))) (upI I3 5 0 (nI p).toNatClampNeg (nI 1)) P O) C hXK cv_L_132 (fun sz => m_X3_waive hfl rfl h01 sz) dL_law_654 (by first | assumption | exact rfl | exact al13 rfl | exact Nat.le_of_ble_eq_true rfl) rfl rfl ⟨rfl, by decide +kernel, by decide +kernel, (by decide +kernel : (parseMethodDescriptor yX3_waive.desc).map (fun d => d.parameters.length) = some 2)⟩ ⟨⟨Nat.le_of_ble_eq_true rfl, Nat.le_of_ble_eq_true rfl⟩, rfl, rfl⟩ rfl (Nat.le_of_ble_eq_true rfl) ⟨show _ ≤ 645988 from by omega, show _ ≤ 7163735 from by omega⟩ rfl (fun E hE => ?_) (fun sz' v' g' z' I' P' O' hA' hp => ?_)
      · obtain ⟨q, hq, hkq⟩ := hE
        rw [hk0] at hkq
        subst hkq
        simp only [List.mem_cons, List.not_mem_nil, or_false, Prod.mk.injEq] at hq
        exact absurd hq.1 (by decide)
      obtain ⟨hkq, qv, qg, qz, qI, qP, qO⟩ := hp
      rw [qv, qg, qz, qI, qP, qO, Kw_self]
      clear hkq qv qg qz qI qP qO
      rw [hv]
      rw [show wv = 1 by omega] at S5
      generalize upI I3 5 0 (nI p).toNatClampNeg (nI 1) = I2 at S5 ⊢
      refine g_iload (pc' := 659) C dL_law_657 rfl rfl ?_
      refine g_icmp_ne (tgt := 666) (pc' := 662) C dL_law_659 (by decide) rfl (fun c7 => absurd hw0 c7) (fun c7 => ?_)
      refine g_iconst (v := nI 1) (pc' := 663) C dL_law_662 (by decide) rfl ?_
      refine g_goto (tgt := 667) C dL_law_663 (by decide) ?_
      refine g_istore (pc' := 669) C dL_law_667 rfl rfl ?_
      refine g_goto (tgt := 771) C dL_law_669 (by decide) ?_
      exact G_pick [0, 1, 2, 3, 4, 5, 6, 7, 8, 9, 10, 11, 12, 13] rfl (kk (Kg K) z nw I2 P O _ _ J2 C ⟨rfl, fun _ _ => rfl⟩ S5 hz hn9 (by omega) (by omega))
set_option maxRecDepth 20000 in
theorem l_pass {K : wK} {z : wZ} {I : wI} {P : wP} {O : wO} {nw : Nat} {J : wI} {b Ln c n : Nat} {xs : Nat → Int32} (hfl : (Kl K).stackTraces = false) (hXK : XK K) (hX : SX K b Ln xs) (C : Cx K cL_law RL 17 (some .boolean) room_1 z) (S : Stt z nw I P J) (hn9 : nw ≤ 900) (hcc : c + 300 ≤ 645988) (hnn : n + 3000 ≤ 7163735) {turn act : Nat} {e v : Int32} (hz : 0 < z.1) (hend : KE K 770) (kk : ∀ (g' : wG) (z' : wZ) (nw' : Nat) (I' : wI) (P' : wP) (O' : wO) (c' n' : Nat) (J' : wI), Cx (Kw K g') cL_law RL 17 (some .boolean) room_1 z' → (g'.2.2 0 0 = (Kg K).2.2 0 0 ∧ ∀ i, i < 7 → g'.2.2 13 i = (Kg K).2.2 13 i) → Stt z' nw' I' P' J' → 0 < z'.1 → nw' ≤ 900 → c' ≤ c + 10 → n' ≤ n + 100 → G (Kw K g') z' I' P' O' c' n' 771 [(0, .ref b), (1, .ref ((Kg K).2.2 0 0)), (2, .ref ((Kg K).2.2 13 0)), (3, .ref ((Kg K).2.2 13 1)), (4, .ref ((Kg K).2.2 13 2)), (5, .ref ((Kg K).2.2 13 3)), (6, .ref ((Kg K).2.2 13 4)), (7, .ref ((Kg K).2.2 13 5)), (8, .ref ((Kg K).2.2 13 6)), (9, .int (nI 1)), (10, .int (nI turn)), (11, .int e), (12, .int (nI act)), (13, .int v)] []) : G K z I P O c n 672 [(0, .ref b), (1, .ref ((Kg K).2.2 0 0)), (2, .ref ((Kg K).2.2 13 0)), (3, .ref ((Kg K).2.2 13 1)), (4, .ref ((Kg K).2.2 13 2)), (5, .ref ((Kg K).2.2 13 3)), (6, .ref ((Kg K).2.2 13 4)), (7, .ref ((Kg K).2.2 13 5)), (8, .ref ((Kg K).2.2 13 6)), (9, .int (nI 1)), (10, .int (nI turn)), (11, .int e), (12, .int (nI act)), (13, .int v)] [] := by
  have main : ∀ h0 : Nat, h0 < 20 → G K z I P O c n 697 [(0, .ref b), (1, .ref ((Kg K).2.2 0 0)), (2, .ref ((Kg K).2.2 13 0)), (3, .ref ((Kg K).2.2 13 1)), (4, .ref ((Kg K).2.2 13 2)), (5, .ref ((Kg K).2.2 13 3)), (6, .ref ((Kg K).2.2 13 4)), (7, .ref ((Kg K).2.2 13 5)), (8, .ref ((Kg K).2.2 13 6)), (9, .int (nI 1)), (10, .int (nI turn)), (11, .int e), (12, .int (nI act)), (13, .int v)] [.int (nI (1 + h0))] := by
    intro h0 hh0
    have loop : ∀ (q k : Nat) (held : Int32) (I2 J2 : wI), k + q = 1 + h0 → Oth I I2 → MI z.1 z.2 J2 → YS (fun _ => False) z (nw + k) J2 (I2 13) → mPL z.1 z.2 q (J2, held) = mPL z.1 z.2 (1 + h0) (th J 0, 0) → (∀ (I3 : wI), Oth I I3 → YS (fun _ => False) z (nw + (1 + h0)) (mPL z.1 z.2 (1 + h0) (th J 0, 0)).1 (I3 13) → G K z I3 P O c n 730 [(0, .ref b), (1, .ref ((Kg K).2.2 0 0)), (2, .ref ((Kg K).2.2 13 0)), (3, .ref ((Kg K).2.2 13 1)), (4, .ref ((Kg K).2.2 13 2)), (5, .ref ((Kg K).2.2 13 3)), (6, .ref ((Kg K).2.2 13 4)), (7, .ref ((Kg K).2.2 13 5)), (8, .ref ((Kg K).2.2 13 6)), (9, .int (nI 1)), (10, .int (nI turn)), (11, .int e), (12, .int (nI act)), (13, .int v), (14, .int (nI (1 + h0))), (15, .int ((mPL z.1 z.2 (1 + h0) (th J 0, 0)).2)), (16, .int (nI (1 + h0)))] []) → G K z I2 P O c n 705 [(0, .ref b), (1, .ref ((Kg K).2.2 0 0)), (2, .ref ((Kg K).2.2 13 0)), (3, .ref ((Kg K).2.2 13 1)), (4, .ref ((Kg K).2.2 13 2)), (5, .ref ((Kg K).2.2 13 3)), (6, .ref ((Kg K).2.2 13 4)), (7, .ref ((Kg K).2.2 13 5)), (8, .ref ((Kg K).2.2 13 6)), (9, .int (nI 1)), (10, .int (nI turn)), (11, .int e), (12, .int (nI act)), (13, .int v), (14, .int (nI (1 + h0))), (15, .int held), (16, .int (nI k))] [] := by
      intro q
      induction q with
      | zero =>
        intro k held I2 J2 hk hO X2 Y2 hm kk2
        have ek : k = 1 + h0 := by omega
        subst ek
        have hm2 : (J2, held) = mPL z.1 z.2 (1 + h0) (th J 0, 0) := hm
        refine g_iload (pc' := 707) C dL_law_705 rfl rfl ?_
        refine g_iload (pc' := 709) C dL_law_707 rfl rfl ?_
        refine g_icmp_geN (tgt := 730) (pc' := 712) C (by omega) (by omega) dL_law_709 (by decide) rfl (fun c1 => ?_) (fun c1 => absurd c1 (by omega))
        have e1 := congrArg Prod.fst hm2
        have e2 := congrArg Prod.snd hm2
        have g1 := kk2 I2 hO (by rw [← e1]; exact Y2)
        rw [← e2] at g1
        exact g1
      | succ q ih =>
        intro k held I2 J2 hk hO X2 Y2 hm kk2
        refine g_iload (pc' := 707) C dL_law_705 rfl rfl ?_
        refine g_iload (pc' := 709) C dL_law_707 rfl rfl ?_
        refine g_icmp_geN (tgt := 730) (pc' := 712) C (by omega) (by omega) dL_law_709 (by decide) rfl (fun c1 => absurd c1 (by omega)) (fun c1 => ?_)
        refine g_iload (pc' := 714) C dL_law_712 rfl rfl ?_
        refine g_aload_n (pc' := 715) C dL_law_714 rfl rfl ?_
        refine g_aload_n (pc' := 716) C dL_law_715 rfl rfl ?_
        refine g_aload (pc' := 718) C dL_law_716 rfl rfl ?_
        refine g_callS (pc' := 721) (As := [.ref ((Kg K).2.2 13 0), .ref ((Kg K).2.2 13 1), .ref ((Kg K).2.2 13 6)]) (S := [.int held]) C cs_L_136 (w_hour (nw := nw + k) (J := J2) X2 Y2 (by omega)) dL_law_718 ⟨rfl, by decide +kernel, by decide +kernel, (by decide +kernel : (parseMethodDescriptor yL_hour.desc).map (fun d => d.parameters.length) = some 3)⟩ ⟨⟨Nat.le_of_ble_eq_true rfl, Nat.le_of_ble_eq_true rfl⟩, rfl, rfl⟩ rfl (Nat.le_of_ble_eq_true rfl) ⟨show _ ≤ 645988 from by omega, show _ ≤ 7163735 from by omega⟩ rfl (fun v1 I3 P1 q => ?_)
        obtain ⟨q1, q2, hO3, Y3⟩ := q
        rw [q1, q2]
        have hO4 := hO.tr hO3
        clear q1 q2 hO3
        refine g_iadd (pc' := 722) C dL_law_721 rfl ?_
        refine g_istore (pc' := 724) C dL_law_722 rfl rfl ?_
        refine g_iinc (pc' := 727) C dL_law_724 rfl (iiN _) rfl rfl ?_
        refine g_goto (tgt := 705) C dL_law_727 (by decide) ?_
        exact G_pick [0, 1, 2, 3, 4, 5, 6, 7, 8, 9, 10, 11, 12, 13, 14, 15, 16] rfl (ih (k + 1) _ I3 _ (by omega) hO4 (MI.en X2) Y3 hm kk2)
    refine g_istore (pc' := 699) C dL_law_697 rfl rfl ?_
    refine g_iconst (v := nI 0) (pc' := 700) C dL_law_699 (by decide) rfl ?_
    refine g_istore (pc' := 702) C dL_law_700 rfl rfl ?_
    refine g_iconst (v := nI 0) (pc' := 703) C dL_law_702 (by decide) rfl ?_
    refine g_istore (pc' := 705) C dL_law_703 rfl rfl ?_
    refine G_pick [0, 1, 2, 3, 4, 5, 6, 7, 8, 9, 10, 11, 12, 13, 14, 15, 16] rfl (loop (1 + h0) 0 (nI 0) I (th J 0) (by omega) Oth.rf S.th0.s.M S.th0.y (by rw [nI_0]) (fun I3 hO Y3 => ?_))
    refine g_aload (pc' := 732) C dL_law_730 rfl rfl ?_
    refine g_iconst (v := nI 2) (pc' := 733) C dL_law_732 (by decide) rfl ?_
    refine g_iald (pc' := 734) C (2) rfl (by show 2 < 3; omega) dL_law_733 (al13 rfl) rfl rfl rfl ?_
    rw [Y3.q2]
    refine g_sipush (v := nI 900) (pc' := 737) C dL_law_734 (by decide) rfl ?_
    refine g_icmp_gtN (tgt := 751) (pc' := 740) C (by omega) (by omega) dL_law_737 (by decide) rfl (fun c1 => ?_) (fun c1 => ?_)
    ·
      refine g_iconst (v := nI 1) (pc' := 752) C dL_law_751 (by decide) rfl ?_
      refine g_goto (tgt := 756) C dL_law_752 (by decide) ?_
      refine g_istore (pc' := 758) C dL_law_756 rfl rfl ?_
      refine g_aload (pc' := 760) C dL_law_758 rfl rfl ?_
      refine g_iconst (v := nI 2) (pc' := 761) C dL_law_760 (by decide) rfl ?_
      refine g_iald (pc' := 762) C (2) rfl (by show 2 < 3; omega) dL_law_761 (al13 rfl) rfl rfl rfl ?_
      rw [Y3.q2]
      refine g_sipush (v := nI 900) (pc' := 765) C dL_law_762 (by decide) rfl ?_
      refine g_icmp_leN (tgt := 771) (pc' := 768) C (by omega) (by omega) dL_law_765 (by decide) rfl (fun c2 => absurd c2 (by omega)) (fun c2 => ?_)
      refine g_iload (pc' := 770) C dL_law_768 rfl rfl ?_
      rw [nI1']
      exact hend (Kg K) z _ P O _ _ _ (by omega) (by omega)
    ·
      refine g_aload_n (pc' := 741) C dL_law_740 rfl rfl ?_
      refine g_iload (pc' := 743) C dL_law_741 rfl rfl ?_
      obtain ⟨hk0, hv, S5⟩ := fin_pass (h := 1 + h0) S hO (by omega) (by omega) (by omega) Y3
      refine x_callV (pc' := 746) (mc := 1) (ms := 6) (As := [.int (nI (1 + h0))]) (S := []) (post := fun _ => pX (cK12 (I3 0 0 6) (nI (1 + h0))) (Kg K) z (some (.int (cPL P z (nI (1 + h0)).toNatClampNeg (I3, 0)).2)) (cPL P z (nI (1 + h0)).toNatClampNeg (I3, 0)).1 P O) C hXK cv_L_139 (fun sz => m_X3_pass hfl (S.s.oth hO).X sz) dL_law_743 (by first | assumption | exact rfl | exact al13 rfl | exact Nat.le_of_ble_eq_true rfl) rfl rfl ⟨rfl, by decide +kernel, by decide +kernel, (by decide +kernel : (parseMethodDescriptor yX3_pass.desc).map (fun d => d.parameters.length) = some 1)⟩ ⟨⟨Nat.le_of_ble_eq_true rfl, Nat.le_of_ble_eq_true rfl⟩, rfl, rfl⟩ rfl (Nat.le_of_ble_eq_true rfl) ⟨show _ ≤ 645988 from by omega, show _ ≤ 7163735 from by omega⟩ rfl (fun E hE => ?_) (fun sz' v' g' z' I' P' O' hA' hp => ?_)
      · obtain ⟨q, hq, hkq⟩ := hE
        rw [hk0] at hkq
        subst hkq
        simp only [List.mem_cons, List.not_mem_nil, or_false, Prod.mk.injEq] at hq
        rcases hq with ⟨q, -⟩ | ⟨q, -⟩ <;> exact absurd q (by decide)
      obtain ⟨hkq, qv, qg, qz, qI, qP, qO⟩ := hp
      rw [qv, qg, qz, qI, qP, qO, Kw_self]
      clear hkq qv qg qz qI qP qO
      rw [hv]
      have q2 := S5.y.q2
      generalize (cPL P z (nI (1 + h0)).toNatClampNeg (I3, 0)).1 = I2 at S5 q2 ⊢
      refine g_iload (pc' := 748) C dL_law_746 rfl rfl ?_
      refine g_icmp_ne (tgt := 755) (pc' := 751) C dL_law_748 (by decide) rfl (fun c3 => absurd rfl c3) (fun c3 => ?_)
      refine g_iconst (v := nI 1) (pc' := 752) C dL_law_751 (by decide) rfl ?_
      refine g_goto (tgt := 756) C dL_law_752 (by decide) ?_
      refine g_istore (pc' := 758) C dL_law_756 rfl rfl ?_
      refine g_aload (pc' := 760) C dL_law_758 rfl rfl ?_
      refine g_iconst (v := nI 2) (pc' := 761) C dL_law_760 (by decide) rfl ?_
      refine g_iald (pc' := 762) C (2) rfl (by show 2 < 3; omega) dL_law_761 (al13 rfl) rfl rfl rfl ?_
      rw [q2]
      refine g_sipush (v := nI 900) (pc' := 765) C dL_law_762 (by decide) rfl ?_
      refine g_icmp_leN (tgt := 771) (pc' := 768) C (by omega) (by omega) dL_law_765 (by decide) rfl (fun c4 => ?_) (fun c4 => absurd c4 (by omega))
      exact G_pick [0, 1, 2, 3, 4, 5, 6, 7, 8, 9, 10, 11, 12, 13] rfl (kk (Kg K) z (nw + (1 + h0)) I2 P O _ _ _ C ⟨rfl, fun _ _ => rfl⟩ S5 hz (by omega) (by omega) (by omega))
  refine g_iconst (v := nI 1) (pc' := 673) C dL_law_672 (by decide) rfl ?_
  refine g_iload (pc' := 675) C dL_law_673 rfl rfl ?_
  refine g_iload (pc' := 677) C dL_law_675 rfl rfl ?_
  refine g_iconst (v := nI 3) (pc' := 678) C dL_law_677 (by decide) rfl ?_
  refine g_ishr (pc' := 679) C dL_law_678 rfl ?_
  refine g_bipush (v := nI 8) (pc' := 681) C dL_law_679 (by decide) rfl ?_
  refine g_callS (pc' := 684) (As := [.int (v >>> (nI 3 &&& 31)), .int (nI 8)]) (S := [.int v, .int (nI 1)]) C cs_L_65 (w_low (b := 8) (by omega) (by omega)) dL_law_681 ⟨rfl, by decide +kernel, by decide +kernel, (by decide +kernel : (parseMethodDescriptor yL_low.desc).map (fun d => d.parameters.length) = some 2)⟩ ⟨⟨Nat.le_of_ble_eq_true rfl, Nat.le_of_ble_eq_true rfl⟩, rfl, rfl⟩ rfl (Nat.le_of_ble_eq_true rfl) ⟨show _ ≤ 645988 from by omega, show _ ≤ 7163735 from by omega⟩ rfl (fun v1 I1 P1 q => ?_)
  obtain ⟨rfl, q1, q2⟩ := q
  rw [q1, q2]
  obtain ⟨t0, ht0, et0⟩ : ∃ r, r < 8 ∧ lowN (v >>> (nI 3 &&& 31)) 8 = r := ⟨_, lowN_lt (by omega), rfl⟩
  rw [et0]
  refine g_if_ne (tgt := 692) (pc' := 687) C dL_law_684 (by decide) rfl (fun c1 => ?_) (fun c1 => ?_)
  ·
    refine g_iconst (v := nI 4) (pc' := 693) C dL_law_692 (by decide) rfl ?_
    refine g_callS (pc' := 696) (As := [.int (v), .int (nI 4)]) (S := [.int (nI 1)]) C cs_L_65 (w_low (b := 4) (by omega) (by omega)) dL_law_693 ⟨rfl, by decide +kernel, by decide +kernel, (by decide +kernel : (parseMethodDescriptor yL_low.desc).map (fun d => d.parameters.length) = some 2)⟩ ⟨⟨Nat.le_of_ble_eq_true rfl, Nat.le_of_ble_eq_true rfl⟩, rfl, rfl⟩ rfl (Nat.le_of_ble_eq_true rfl) ⟨show _ ≤ 645988 from by omega, show _ ≤ 7163735 from by omega⟩ rfl (fun v1 I1 P1 q => ?_)
    obtain ⟨rfl, q1, q2⟩ := q
    rw [q1, q2]
    obtain ⟨h0, hh0, eh0⟩ : ∃ r, r < 4 ∧ lowN (v) 4 = r := ⟨_, lowN_lt (by omega), rfl⟩
    rw [eh0]
    refine g_iaddN (pc' := 697) C dL_law_696 rfl ?_
    exact main h0 (by omega)
  ·
    refine g_bipush (v := nI 20) (pc' := 689) C dL_law_687 (by decide) rfl ?_
    refine g_goto (tgt := 693) C dL_law_689 (by decide) ?_
    refine g_callS (pc' := 696) (As := [.int (v), .int (nI 20)]) (S := [.int (nI 1)]) C cs_L_65 (w_low (b := 20) (by omega) (by omega)) dL_law_693 ⟨rfl, by decide +kernel, by decide +kernel, (by decide +kernel : (parseMethodDescriptor yL_low.desc).map (fun d => d.parameters.length) = some 2)⟩ ⟨⟨Nat.le_of_ble_eq_true rfl, Nat.le_of_ble_eq_true rfl⟩, rfl, rfl⟩ rfl (Nat.le_of_ble_eq_true rfl) ⟨show _ ≤ 645988 from by omega, show _ ≤ 7163735 from by omega⟩ rfl (fun v1 I1 P1 q => ?_)
    obtain ⟨rfl, q1, q2⟩ := q
    rw [q1, q2]
    obtain ⟨h0, hh0, eh0⟩ : ∃ r, r < 20 ∧ lowN (v) 20 = r := ⟨_, lowN_lt (by omega), rfl⟩
    rw [eh0]
    refine g_iaddN (pc' := 697) C dL_law_696 rfl ?_
    exact main h0 (by omega)
set_option maxRecDepth 20000 in
theorem l_end {K : wK} {z : wZ} {I : wI} {P : wP} {O : wO} {nw : Nat} {J : wI} {b Ln c n : Nat} {xs : Nat → Int32} (hfl : (Kl K).stackTraces = false) (hXK : XK K) (hX : SX K b Ln xs) (C : Cx K cL_law RL 17 (some .boolean) room_1 z) (S : Stt z nw I P J) (hn9 : nw ≤ 900) (hcc : c + 300 ≤ 645988) (hnn : n + 3000 ≤ 7163735) {turn act : Nat} {e v : Int32} (hz : 0 < z.1) (kk : ∀ (c' n' : Nat), c' ≤ c + 200 → n' ≤ n + 1200 → G K z I P O c' n' 149 [(0, .ref b), (1, .ref ((Kg K).2.2 0 0)), (2, .ref ((Kg K).2.2 13 0)), (3, .ref ((Kg K).2.2 13 1)), (4, .ref ((Kg K).2.2 13 2)), (5, .ref ((Kg K).2.2 13 3)), (6, .ref ((Kg K).2.2 13 4)), (7, .ref ((Kg K).2.2 13 5)), (8, .ref ((Kg K).2.2 13 6)), (9, .int (nI 1)), (10, .int (nI (turn + 1)))] []) : G K z I P O c n 771 [(0, .ref b), (1, .ref ((Kg K).2.2 0 0)), (2, .ref ((Kg K).2.2 13 0)), (3, .ref ((Kg K).2.2 13 1)), (4, .ref ((Kg K).2.2 13 2)), (5, .ref ((Kg K).2.2 13 3)), (6, .ref ((Kg K).2.2 13 4)), (7, .ref ((Kg K).2.2 13 5)), (8, .ref ((Kg K).2.2 13 6)), (9, .int (nI 1)), (10, .int (nI turn)), (11, .int e), (12, .int (nI act)), (13, .int v)] [] := by
  refine g_iload (pc' := 773) C dL_law_771 rfl rfl ?_
  refine g_if_eq (tgt := 801) (pc' := 776) C dL_law_773 (by decide) rfl (fun c1 => absurd c1 (by decide)) (fun c1 => ?_)
  refine g_aload_n (pc' := 777) C dL_law_776 rfl rfl ?_
  refine g_iload (pc' := 779) C dL_law_777 rfl rfl ?_
  refine g_iconst (v := nI 1) (pc' := 780) C dL_law_779 (by decide) rfl ?_
  refine g_ishr (pc' := 781) C dL_law_780 rfl ?_
  refine g_aload_n (pc' := 782) C dL_law_781 rfl rfl ?_
  refine g_aload_n (pc' := 783) C dL_law_782 rfl rfl ?_
  refine g_aload (pc' := 785) C dL_law_783 rfl rfl ?_
  refine g_aload (pc' := 787) C dL_law_785 rfl rfl ?_
  refine g_aload (pc' := 789) C dL_law_787 rfl rfl ?_
  refine g_aload (pc' := 791) C dL_law_789 rfl rfl ?_
  refine x_callP (pc' := 794) (mc := 200) (ms := 1200) (As := [.ref ((Kg K).2.2 0 0), .int (v >>> (nI 1 &&& 31)), .ref ((Kg K).2.2 13 0), .ref ((Kg K).2.2 13 1), .ref ((Kg K).2.2 13 2), .ref ((Kg K).2.2 13 3), .ref ((Kg K).2.2 13 4), .ref ((Kg K).2.2 13 6)]) (S := []) C hXK cs_L_142 (fun sz => w_same hfl S hz hn9 sz) dL_law_791 ⟨by decide +kernel, by decide +kernel, (by decide +kernel : (parseMethodDescriptor yL_same.desc).map (fun d => d.parameters.length) = some 8)⟩ ⟨⟨Nat.le_of_ble_eq_true rfl, Nat.le_of_ble_eq_true rfl⟩, rfl, rfl⟩ rfl (Nat.le_of_ble_eq_true rfl) ⟨show _ ≤ 645988 from by omega, show _ ≤ 7163735 from by omega⟩ rfl (fun sz' v' g' z' I' P' O' hA' hp => ?_)
  obtain ⟨qO, qv, qg, qz, qI, qP⟩ := hp
  rw [qv, qg, qz, qI, qP, qO, Kw_self, ← nI1']
  clear qO qv qg qz qI qP
  refine g_if_eq (tgt := 801) (pc' := 797) C dL_law_794 (by decide) rfl (fun c2 => absurd c2 (by decide)) (fun c2 => ?_)
  refine g_iconst (v := nI 1) (pc' := 798) C dL_law_797 (by decide) rfl ?_
  refine g_goto (tgt := 802) C dL_law_798 (by decide) ?_
  refine g_istore (pc' := 804) C dL_law_802 rfl rfl ?_
  refine g_iinc (pc' := 807) C dL_law_804 rfl (iiN _) rfl rfl ?_
  refine g_goto (tgt := 149) C dL_law_807 (by decide) ?_
  exact G_pick [0, 1, 2, 3, 4, 5, 6, 7, 8, 9, 10] rfl (kk _ _ (by omega) (by omega))
set_option maxRecDepth 20000 in
theorem law_loop {K0 : wK} {b Ln : Nat} {xs : Nat → Int32} (hfl0 : (Kl K0).stackTraces = false) (hXK0 : XK K0) (hX0 : SX K0 b Ln xs) (hLn : Ln ≤ 260) (hend1 : KE K0 770) (hend2 : KE K0 812) : ∀ (t turn : Nat) (g : wG) (z : wZ) (nw : Nat) (I : wI) (P : wP) (O : wO) (c n : Nat) (J : wI), turn + t = 150 → Cx (Kw K0 g) cL_law RL 17 (some .boolean) room_1 z → Stt z nw I P J → nw ≤ 900 → c ≤ 1000 + 300 * turn → n ≤ 10000 + 2000 * turn → G (Kw K0 g) z I P O c n 149 [(0, .ref b), (1, .ref (g.2.2 0 0)), (2, .ref (g.2.2 13 0)), (3, .ref (g.2.2 13 1)), (4, .ref (g.2.2 13 2)), (5, .ref (g.2.2 13 3)), (6, .ref (g.2.2 13 4)), (7, .ref (g.2.2 13 5)), (8, .ref (g.2.2 13 6)), (9, .int (nI 1)), (10, .int (nI turn))] [] := by
  intro t
  induction t with
  | zero =>
    intro turn g z nw I P O c n J ht C S hn9 hc hn
    obtain ⟨K, hKe⟩ : ∃ K : wK, K = Kw K0 g := ⟨_, rfl⟩
    have hKg : g = Kg K := by rw [hKe]; rfl
    have hend2 : KE K 812 := by rw [hKe]; exact hend2
    rw [← hKe] at C ⊢
    rw [hKg]
    clear hKe hKg
    refine g_iload (pc' := 151) C dL_law_149 rfl rfl ?_
    refine g_sipush (v := nI 150) (pc' := 154) C dL_law_151 (by decide) rfl ?_
    refine g_icmp_geN (tgt := 810) (pc' := 157) C (by omega) (by omega) dL_law_154 (by decide) rfl (fun c1 => ?_) (fun c1 => absurd c1 (by omega))
    refine g_iload (pc' := 812) C dL_law_810 rfl rfl ?_
    rw [nI1']
    exact hend2 (Kg K) z _ P O _ _ _ (by omega) (by omega)
  | succ t ih =>
    intro turn g z nw I P O c n J ht C S hn9 hc hn
    have ih2 : ∀ (g' : wG) (z' : wZ) (nw' : Nat) (I' : wI) (P' : wP) (O' : wO) (c' n' : Nat) (J' : wI), Cx (Kw (Kw K0 g) g') cL_law RL 17 (some .boolean) room_1 z' → Stt z' nw' I' P' J' → nw' ≤ 900 → c' ≤ c + 210 → n' ≤ n + 1300 → G (Kw (Kw K0 g) g') z' I' P' O' c' n' 149 [(0, .ref b), (1, .ref (g'.2.2 0 0)), (2, .ref (g'.2.2 13 0)), (3, .ref (g'.2.2 13 1)), (4, .ref (g'.2.2 13 2)), (5, .ref (g'.2.2 13 3)), (6, .ref (g'.2.2 13 4)), (7, .ref (g'.2.2 13 5)), (8, .ref (g'.2.2 13 6)), (9, .int (nI 1)), (10, .int (nI (turn + 1)))] [] := fun g' z' nw' I' P' O' c' n' J' C' S' hn' hc' hn2 => ih (turn + 1) g' z' nw' I' P' O' c' n' J' (by omega) C' S' hn' (by omega) (by omega)
    clear ih
    obtain ⟨K, hKe⟩ : ∃ K : wK, K = Kw K0 g := ⟨_, rfl⟩
    have hKg : g = Kg K := by rw [hKe]; rfl
    have hend1 : KE K 770 := by rw [hKe]; exact hend1
    have hfl : (Kl K).stackTraces = false := by rw [hKe]; exact hfl0
    have hXK : XK K := by rw [hKe]; exact hXK0
    have hX : SX K b Ln xs := by rw [hKe]; exact hX0
    rw [← hKe] at C ih2 ⊢
    rw [hKg]
    clear hKe hKg hfl0 hXK0 hX0
    have kk : ∀ (e v : Int32) (act : Nat) (g' : wG) (z' : wZ) (nw' : Nat) (I' : wI) (P' : wP) (O' : wO) (c' n' : Nat) (J' : wI), Cx (Kw K g') cL_law RL 17 (some .boolean) room_1 z' → (g'.2.2 0 0 = (Kg K).2.2 0 0 ∧ ∀ i, i < 7 → g'.2.2 13 i = (Kg K).2.2 13 i) → Stt z' nw' I' P' J' → 0 < z'.1 → nw' ≤ 900 → c' ≤ c + 10 → n' ≤ n + 100 → G (Kw K g') z' I' P' O' c' n' 771 [(0, .ref b), (1, .ref ((Kg K).2.2 0 0)), (2, .ref ((Kg K).2.2 13 0)), (3, .ref ((Kg K).2.2 13 1)), (4, .ref ((Kg K).2.2 13 2)), (5, .ref ((Kg K).2.2 13 3)), (6, .ref ((Kg K).2.2 13 4)), (7, .ref ((Kg K).2.2 13 5)), (8, .ref ((Kg K).2.2 13 6)), (9, .int (nI 1)), (10, .int (nI turn)), (11, .int e), (12, .int (nI act)), (13, .int v)] [] := by
      intro e v act g' z' nw' I' P' O' c' n' J' C' hg S' hz' hn' hc' hn2
      rw [← hg.1, ← hg.2 0 (by omega), ← hg.2 1 (by omega), ← hg.2 2 (by omega), ← hg.2 3 (by omega), ← hg.2 4 (by omega), ← hg.2 5 (by omega), ← hg.2 6 (by omega)]
      exact l_end (K := Kw K g') hfl (hXK.up g') (hX.up g') C' S' hn' (by omega) (by omega) hz' (fun c2 n2 h1 h2 => ih2 g' z' nw' I' P' O' c2 n2 J' C' S' hn' (by omega) (by omega))
    have hM8 := S.y.M8
    refine g_iload (pc' := 151) C dL_law_149 rfl rfl ?_
    refine g_sipush (v := nI 150) (pc' := 154) C dL_law_151 (by decide) rfl ?_
    refine g_icmp_geN (tgt := 810) (pc' := 157) C (by omega) (by omega) dL_law_154 (by decide) rfl (fun c1 => absurd c1 (by omega)) (fun c1 => ?_)
    refine g_iload (pc' := 159) C dL_law_157 rfl rfl ?_
    refine g_if_eq (tgt := 810) (pc' := 162) C dL_law_159 (by decide) rfl (fun c2 => absurd c2 (by decide)) (fun c2 => ?_)
    refine g_aload_n (pc' := 163) C dL_law_162 rfl rfl ?_
    refine g_iload (pc' := 165) C dL_law_163 rfl rfl ?_
    refine g_callC (pc' := 168) C hX (w_cell (k := turn) (by omega) (by omega)) dL_law_165 ⟨Nat.le_of_ble_eq_true rfl, Nat.le_of_ble_eq_true rfl⟩ (Nat.le_of_ble_eq_true rfl) ⟨show _ ≤ 645988 from by omega, show _ ≤ 7163735 from by omega⟩ rfl (fun e => ?_)
    refine g_istore (pc' := 170) C dL_law_168 rfl rfl ?_
    refine g_iload (pc' := 172) C dL_law_170 rfl rfl ?_
    refine g_bipush (v := nI 32) (pc' := 174) C dL_law_172 (by decide) rfl ?_
    refine g_callS (pc' := 177) (As := [.int (e), .int (nI 32)]) (S := []) C cs_L_65 (w_low (b := 32) (by omega) (by omega)) dL_law_174 ⟨rfl, by decide +kernel, by decide +kernel, (by decide +kernel : (parseMethodDescriptor yL_low.desc).map (fun d => d.parameters.length) = some 2)⟩ ⟨⟨Nat.le_of_ble_eq_true rfl, Nat.le_of_ble_eq_true rfl⟩, rfl, rfl⟩ rfl (Nat.le_of_ble_eq_true rfl) ⟨show _ ≤ 645988 from by omega, show _ ≤ 7163735 from by omega⟩ rfl (fun v1 I1 P1 q => ?_)
    obtain ⟨rfl, q1, q2⟩ := q
    rw [q1, q2]
    obtain ⟨act, hact, eact⟩ : ∃ r, r < 32 ∧ lowN (e) 32 = r := ⟨_, lowN_lt (by omega), rfl⟩
    rw [eact]
    refine g_istore (pc' := 179) C dL_law_177 rfl rfl ?_
    refine g_iload (pc' := 181) C dL_law_179 rfl rfl ?_
    refine g_iconst (v := nI 5) (pc' := 182) C dL_law_181 (by decide) rfl ?_
    refine g_ishr (pc' := 183) C dL_law_182 rfl ?_
    refine g_istore (pc' := 185) C dL_law_183 rfl rfl ?_
    refine g_iload (pc' := 187) C dL_law_185 rfl rfl ?_
    refine g_iconst (v := nI 3) (pc' := 188) C dL_law_187 (by decide) rfl ?_
    refine g_icmp_geN (tgt := 200) (pc' := 191) C (by omega) (by omega) dL_law_188 (by decide) rfl (fun c3 => ?_) (fun c3 => ?_)
    ·
      refine g_aload (pc' := 202) C dL_law_200 rfl rfl ?_
      refine g_iconst (v := nI 0) (pc' := 203) C dL_law_202 (by decide) rfl ?_
      refine g_iald (pc' := 204) C (0) rfl (by show 0 < 3; omega) dL_law_203 (al13 rfl) rfl rfl rfl ?_
      rw [S.y.q0]
      refine g_if_ne (tgt := 383) (pc' := 207) C dL_law_204 (by decide) rfl (fun c4 => ?_) (fun c4 => ?_)
      ·
        have hz : 0 < z.1 := Nat.pos_of_ne_zero (fun q => c4 (by rw [q]; decide))
        refine g_iload (pc' := 385) C dL_law_383 rfl rfl ?_
        refine g_bipush (v := nI 18) (pc' := 387) C dL_law_385 (by decide) rfl ?_
        refine g_icmp_geN (tgt := 447) (pc' := 390) C (by omega) (by omega) dL_law_387 (by decide) rfl (fun c5 => ?_) (fun c5 => ?_)
        ·
          refine g_iload (pc' := 449) C dL_law_447 rfl rfl ?_
          refine g_bipush (v := nI 24) (pc' := 451) C dL_law_449 (by decide) rfl ?_
          refine g_icmp_geN (tgt := 493) (pc' := 454) C (by omega) (by omega) dL_law_451 (by decide) rfl (fun c6 => ?_) (fun c6 => ?_)
          ·
            refine g_iload (pc' := 495) C dL_law_493 rfl rfl ?_
            refine g_bipush (v := nI 24) (pc' := 497) C dL_law_495 (by decide) rfl ?_
            refine g_icmp_neN (tgt := 583) (pc' := 500) C (by omega) (by omega) dL_law_497 (by decide) rfl (fun c7 => ?_) (fun c7 => ?_)
            ·
              refine g_iload (pc' := 585) C dL_law_583 rfl rfl ?_
              refine g_bipush (v := nI 25) (pc' := 587) C dL_law_585 (by decide) rfl ?_
              refine g_icmp_neN (tgt := 672) (pc' := 590) C (by omega) (by omega) dL_law_587 (by decide) rfl (fun c8 => ?_) (fun c8 => ?_)
              ·
                refine G_pick [0, 1, 2, 3, 4, 5, 6, 7, 8, 9, 10, 11, 12, 13] rfl ?_
                exact l_pass hfl hXK hX C S hn9 (by omega) (by omega) hz hend1 (kk _ _ _)
              ·
                refine G_pick [0, 1, 2, 3, 4, 5, 6, 7, 8, 9, 10, 11, 12, 13] rfl ?_
                exact l_waive hfl hXK hX C S hn9 (by omega) (by omega) hz (kk _ _ _)
            ·
              refine G_pick [0, 1, 2, 3, 4, 5, 6, 7, 8, 9, 10, 11, 12, 13] rfl ?_
              exact l_itp hfl hXK hX C S hn9 (by omega) (by omega) hz (kk _ _ _)
          ·
            refine G_pick [0, 1, 2, 3, 4, 5, 6, 7, 8, 9, 10, 11, 12, 13] rfl ?_
            exact l_matters hfl hXK hX C S hn9 (by omega) (by omega) hz (by omega) (by omega) (kk _ _ _)
        ·
          refine G_pick [0, 1, 2, 3, 4, 5, 6, 7, 8, 9, 10, 11, 12, 13] rfl ?_
          exact l_plans hfl hXK hX C S hn9 (by omega) (by omega) hz (by omega) (kk _ _ _)
      ·
        have hz0 : z.1 < 8 := by
          have := (nI_eq (a := z.1) (b := 0) (by have := S.y.M8; omega) (by omega)).mp (by rw [nI_0]; exact c4)
          omega
        refine G_pick [0, 1, 2, 3, 4, 5, 6, 7, 8, 9, 10, 11, 12, 13] rfl ?_
        exact l_file hfl hXK hX C S hn9 (by omega) (by omega) hz0 (kk _ _ _)
    ·
      refine g_aload (pc' := 193) C dL_law_191 rfl rfl ?_
      refine g_iconst (v := nI 0) (pc' := 194) C dL_law_193 (by decide) rfl ?_
      refine g_iald (pc' := 195) C (0) rfl (by show 0 < 3; omega) dL_law_194 (al13 rfl) rfl rfl rfl ?_
      rw [S.y.q0]
      refine g_bipush (v := nI 8) (pc' := 197) C dL_law_195 (by decide) rfl ?_
      refine g_icmp_ltN (tgt := 207) (pc' := 200) C (by omega) (by omega) dL_law_197 (by decide) rfl (fun c9 => ?_) (fun c9 => ?_)
      ·
        have hz0 : z.1 < 8 := c9
        refine G_pick [0, 1, 2, 3, 4, 5, 6, 7, 8, 9, 10, 11, 12, 13] rfl ?_
        exact l_file hfl hXK hX C S hn9 (by omega) (by omega) hz0 (kk _ _ _)
      ·
        skip
        refine g_aload (pc' := 202) C dL_law_200 rfl rfl ?_
        refine g_iconst (v := nI 0) (pc' := 203) C dL_law_202 (by decide) rfl ?_
        refine g_iald (pc' := 204) C (0) rfl (by show 0 < 3; omega) dL_law_203 (al13 rfl) rfl rfl rfl ?_
        rw [S.y.q0]
        refine g_if_ne (tgt := 383) (pc' := 207) C dL_law_204 (by decide) rfl (fun c10 => ?_) (fun c10 => ?_)
        ·
          have hz : 0 < z.1 := Nat.pos_of_ne_zero (fun q => c10 (by rw [q]; decide))
          refine g_iload (pc' := 385) C dL_law_383 rfl rfl ?_
          refine g_bipush (v := nI 18) (pc' := 387) C dL_law_385 (by decide) rfl ?_
          refine g_icmp_geN (tgt := 447) (pc' := 390) C (by omega) (by omega) dL_law_387 (by decide) rfl (fun c11 => ?_) (fun c11 => ?_)
          ·
            refine g_iload (pc' := 449) C dL_law_447 rfl rfl ?_
            refine g_bipush (v := nI 24) (pc' := 451) C dL_law_449 (by decide) rfl ?_
            refine g_icmp_geN (tgt := 493) (pc' := 454) C (by omega) (by omega) dL_law_451 (by decide) rfl (fun c12 => ?_) (fun c12 => ?_)
            ·
              refine g_iload (pc' := 495) C dL_law_493 rfl rfl ?_
              refine g_bipush (v := nI 24) (pc' := 497) C dL_law_495 (by decide) rfl ?_
              refine g_icmp_neN (tgt := 583) (pc' := 500) C (by omega) (by omega) dL_law_497 (by decide) rfl (fun c13 => ?_) (fun c13 => ?_)
              ·
                refine g_iload (pc' := 585) C dL_law_583 rfl rfl ?_
                refine g_bipush (v := nI 25) (pc' := 587) C dL_law_585 (by decide) rfl ?_
                refine g_icmp_neN (tgt := 672) (pc' := 590) C (by omega) (by omega) dL_law_587 (by decide) rfl (fun c14 => ?_) (fun c14 => ?_)
                ·
                  refine G_pick [0, 1, 2, 3, 4, 5, 6, 7, 8, 9, 10, 11, 12, 13] rfl ?_
                  exact l_pass hfl hXK hX C S hn9 (by omega) (by omega) hz hend1 (kk _ _ _)
                ·
                  refine G_pick [0, 1, 2, 3, 4, 5, 6, 7, 8, 9, 10, 11, 12, 13] rfl ?_
                  exact l_waive hfl hXK hX C S hn9 (by omega) (by omega) hz (kk _ _ _)
              ·
                refine G_pick [0, 1, 2, 3, 4, 5, 6, 7, 8, 9, 10, 11, 12, 13] rfl ?_
                exact l_itp hfl hXK hX C S hn9 (by omega) (by omega) hz (kk _ _ _)
            ·
              refine G_pick [0, 1, 2, 3, 4, 5, 6, 7, 8, 9, 10, 11, 12, 13] rfl ?_
              exact l_matters hfl hXK hX C S hn9 (by omega) (by omega) hz (by omega) (by omega) (kk _ _ _)
          ·
            refine G_pick [0, 1, 2, 3, 4, 5, 6, 7, 8, 9, 10, 11, 12, 13] rfl ?_
            exact l_plans hfl hXK hX C S hn9 (by omega) (by omega) hz (by omega) (kk _ _ _)
        ·
          have hz0 : z.1 < 8 := by
            have := (nI_eq (a := z.1) (b := 0) (by have := S.y.M8; omega) (by omega)).mp (by rw [nI_0]; exact c10)
            omega
          refine G_pick [0, 1, 2, 3, 4, 5, 6, 7, 8, 9, 10, 11, 12, 13] rfl ?_
          exact l_file hfl hXK hX C S hn9 (by omega) (by omega) hz0 (kk _ _ _)
theorem fin_it3 {z : wZ} {nw k y p : Nat} {I Ia : wI} {P : wP} {J : wI} (S : Sim z nw I P J) (hO : Oth I Ia) (hk : k < 4) (hy : y ≤ 15) (hp : 1 ≤ p) (hp9 : p ≤ 99) : cK0 (nI k) (nI y) (nI p) = 0 ∧ Ia 1 (nI k).toNatClampNeg 1 = J 13 3 k ∧ Sim z nw (cO0 Ia (nI k) (nI y) (nI p)) P (upI (upI (th J 0) 13 2 k (nI y)) 13 3 k (nI p)) := by
  have Sa := S.oth hO
  have hc : (nI k).toNatClampNeg = k := nI_clamp (by omega)
  have hK : mK0 (nI k) (nI y) (nI p) = 0 := by
    unfold mK0
    rw [if_pos (show inR (nI k) 0 3 = true from inR_nI (lo := 0) (hi := 3) (by omega) (by omega) (by omega)), if_pos (show inR (nI y) 0 15 = true ∧ inR (nI p) 1 99 = true from ⟨inR_nI (lo := 0) (hi := 15) (by omega) (by omega) (by omega), inR_nI (lo := 1) (hi := 99) (by omega) (by omega) (by omega)⟩)]
  obtain ⟨h1, h2, -⟩ := s_interpreter Sa (x := nI k) (y := nI y) (w := nI p)
  unfold mO0 at h1 h2
  rw [if_pos hK, hc] at h1 h2
  have hk0 : cK0 (nI k) (nI y) (nI p) = 0 := by
    rw [← h1]
    show upI (upI (th J 0) 13 2 k (nI y)) 13 3 k (nI p) 12 0 0 = 0
    rw [upI_at, if_neg (by omega), upI_at, if_neg (by omega)]
    exact thv J 0
  have h3 := h2 hk0
  refine ⟨hk0, ?_, h3.2⟩
  rw [hc]
  have := h3.1
  rw [th_13] at this
  exact this
set_option maxRecDepth 20000 in
theorem law_init {K : wK} {b Ln : Nat} {xs : Nat → Int32} (hfl : (Kl K).stackTraces = false) (hXK : XK K) (hX : SX K b Ln xs) (hLn : Ln ≤ 260) {z : wZ} {P : wP} {O : wO} (C : Cx K cL_law RL 17 (some .boolean) room_1 z) (hRF : RF z P) (kk : ∀ (I : wI) (c n : Nat) (J : wI), Stt z 0 I P J → c ≤ 500 → n ≤ 5000 → G K z I P O c n 149 [(0, .ref b), (1, .ref ((Kg K).2.2 0 0)), (2, .ref ((Kg K).2.2 13 0)), (3, .ref ((Kg K).2.2 13 1)), (4, .ref ((Kg K).2.2 13 2)), (5, .ref ((Kg K).2.2 13 3)), (6, .ref ((Kg K).2.2 13 4)), (7, .ref ((Kg K).2.2 13 5)), (8, .ref ((Kg K).2.2 13 6)), (9, .int (nI 1)), (10, .int (nI 0))] []) : ∀ (t i : Nat) (I : wI) (c n : Nat) (J Jz : wI), i + t = 4 → Sim z 0 I P J → YS (fun _ => False) z 0 Jz (I 13) → (∀ f c, (f = 3 → c < i ∨ 4 ≤ c) → Jz 13 f c = J 13 f c) → (∀ k, i ≤ k → k < 4 → J 13 3 k = 10) → c ≤ 100 + 2 * i → n ≤ 2000 + 12 * i → G K z I P O c n 53 [(0, .ref b), (1, .ref ((Kg K).2.2 0 0)), (2, .ref ((Kg K).2.2 13 0)), (3, .ref ((Kg K).2.2 13 1)), (4, .ref ((Kg K).2.2 13 2)), (5, .ref ((Kg K).2.2 13 3)), (6, .ref ((Kg K).2.2 13 4)), (7, .ref ((Kg K).2.2 13 5)), (8, .ref ((Kg K).2.2 13 6)), (9, .int (nI 1)), (10, .int (nI i))] [] := by
  intro t
  induction t with
  | zero =>
    intro i I c n J Jz ht S Y hz hpr hc hn
    have S5 : Stt z 0 I P J := ⟨S, Y.of (fun _ => False) (fun _ => False) (fun f c _ => (hz f c (fun _ => by omega)).symm) (fun _ _ => rfl) (S.A.n.2.1.trans Y.jn.symm) (fun h => h) (Or.inl ⟨fun h => h, fun _ _ _ h => h⟩) (Or.inl ⟨fun h => h, fun _ _ _ h => h⟩) (Or.inl ⟨fun h => h, fun h => h⟩) (Or.inl ⟨fun h => h, fun h => h, fun h => h, fun h => h⟩) (Or.inl ⟨fun h => h, fun h => h, fun h => h, fun h => h⟩) (Or.inl (fun _ _ h => h)), hRF⟩
    refine g_iload (pc' := 55) C dL_law_53 rfl rfl ?_
    refine g_iconst (v := nI 4) (pc' := 56) C dL_law_55 (by decide) rfl ?_
    refine g_icmp_geN (tgt := 146) (pc' := 59) C (by omega) (by omega) dL_law_56 (by decide) rfl (fun c1 => ?_) (fun c1 => absurd c1 (by omega))
    refine g_iconst (v := nI 0) (pc' := 147) C dL_law_146 (by decide) rfl ?_
    refine g_istore (pc' := 149) C dL_law_147 rfl rfl ?_
    exact G_pick [0, 1, 2, 3, 4, 5, 6, 7, 8, 9, 10] rfl (kk I c n J S5 (by omega) (by omega))
  | succ t ih =>
    intro i I c n J Jz ht S Y hz hpr hc hn
    have hi : i < 4 := by omega
    refine g_iload (pc' := 55) C dL_law_53 rfl rfl ?_
    refine g_iconst (v := nI 4) (pc' := 56) C dL_law_55 (by decide) rfl ?_
    refine g_icmp_geN (tgt := 146) (pc' := 59) C (by omega) (by omega) dL_law_56 (by decide) rfl (fun c1 => absurd c1 (by omega)) (fun c1 => ?_)
    refine g_aload (pc' := 61) C dL_law_59 rfl rfl ?_
    refine g_iload (pc' := 63) C dL_law_61 rfl rfl ?_
    refine g_iconst (v := nI 1) (pc' := 64) C dL_law_63 (by decide) rfl ?_
    refine g_aload_n (pc' := 65) C dL_law_64 rfl rfl ?_
    refine g_sipush (v := nI 700) (pc' := 68) C dL_law_65 (by decide) rfl ?_
    refine g_iload (pc' := 70) C dL_law_68 rfl rfl ?_
    refine g_iaddN (pc' := 71) C dL_law_70 rfl ?_
    refine g_callC (pc' := 74) C hX (w_cell (k := 700 + i) (by omega) (by omega)) dL_law_71 ⟨Nat.le_of_ble_eq_true rfl, Nat.le_of_ble_eq_true rfl⟩ (Nat.le_of_ble_eq_true rfl) ⟨show _ ≤ 645988 from by omega, show _ ≤ 7163735 from by omega⟩ rfl (fun e1 => ?_)
    refine g_bipush (v := nI 15) (pc' := 76) C dL_law_74 (by decide) rfl ?_
    refine g_callS (pc' := 79) (As := [.int (e1), .int (nI 15)]) (S := [.int (nI 1), .int (nI i), .ref ((Kg K).2.2 13 5)]) C cs_L_65 (w_low (b := 15) (by omega) (by omega)) dL_law_76 ⟨rfl, by decide +kernel, by decide +kernel, (by decide +kernel : (parseMethodDescriptor yL_low.desc).map (fun d => d.parameters.length) = some 2)⟩ ⟨⟨Nat.le_of_ble_eq_true rfl, Nat.le_of_ble_eq_true rfl⟩, rfl, rfl⟩ rfl (Nat.le_of_ble_eq_true rfl) ⟨show _ ≤ 645988 from by omega, show _ ≤ 7163735 from by omega⟩ rfl (fun v1 I1 P1 q => ?_)
    obtain ⟨rfl, q1, q2⟩ := q
    rw [q1, q2]
    obtain ⟨y0, hy0, ey0⟩ : ∃ r, r < 15 ∧ lowN (e1) 15 = r := ⟨_, lowN_lt (by omega), rfl⟩
    rw [ey0]
    refine g_iaddN (pc' := 80) C dL_law_79 rfl ?_
    refine g_iast (pc' := 81) C (i) rfl (by show _ < 14; omega) dL_law_80 (al13 rfl) (fun _ => rfl) rfl rfl ?_
    refine g_aload (pc' := 83) C dL_law_81 rfl rfl ?_
    refine g_iconst (v := nI 4) (pc' := 84) C dL_law_83 (by decide) rfl ?_
    refine g_iload (pc' := 86) C dL_law_84 rfl rfl ?_
    refine g_iaddN (pc' := 87) C dL_law_86 rfl ?_
    refine g_iconst (v := nI 5) (pc' := 88) C dL_law_87 (by decide) rfl ?_
    refine g_aload_n (pc' := 89) C dL_law_88 rfl rfl ?_
    refine g_sipush (v := nI 710) (pc' := 92) C dL_law_89 (by decide) rfl ?_
    refine g_iload (pc' := 94) C dL_law_92 rfl rfl ?_
    refine g_iaddN (pc' := 95) C dL_law_94 rfl ?_
    refine g_callC (pc' := 98) C hX (w_cell (k := 710 + i) (by omega) (by omega)) dL_law_95 ⟨Nat.le_of_ble_eq_true rfl, Nat.le_of_ble_eq_true rfl⟩ (Nat.le_of_ble_eq_true rfl) ⟨show _ ≤ 645988 from by omega, show _ ≤ 7163735 from by omega⟩ rfl (fun e2 => ?_)
    refine g_bipush (v := nI 40) (pc' := 100) C dL_law_98 (by decide) rfl ?_
    refine g_callS (pc' := 103) (As := [.int (e2), .int (nI 40)]) (S := [.int (nI 5), .int (nI (4 + i)), .ref ((Kg K).2.2 13 5)]) C cs_L_65 (w_low (b := 40) (by omega) (by omega)) dL_law_100 ⟨rfl, by decide +kernel, by decide +kernel, (by decide +kernel : (parseMethodDescriptor yL_low.desc).map (fun d => d.parameters.length) = some 2)⟩ ⟨⟨Nat.le_of_ble_eq_true rfl, Nat.le_of_ble_eq_true rfl⟩, rfl, rfl⟩ rfl (Nat.le_of_ble_eq_true rfl) ⟨show _ ≤ 645988 from by omega, show _ ≤ 7163735 from by omega⟩ rfl (fun v1 I1 P1 q => ?_)
    obtain ⟨rfl, q1, q2⟩ := q
    rw [q1, q2]
    obtain ⟨p0, hp0, ep0⟩ : ∃ r, r < 40 ∧ lowN (e2) 40 = r := ⟨_, lowN_lt (by omega), rfl⟩
    rw [ep0]
    refine g_iaddN (pc' := 104) C dL_law_103 rfl ?_
    refine g_iast (pc' := 105) C (4 + i) rfl (by show _ < 14; omega) dL_law_104 (al13 rfl) (fun _ => rfl) rfl rfl ?_
    have hO : Oth I (upI (upI I 13 5 (i) (nI (1 + y0))) 13 5 (4 + i) (nI (5 + p0))) := Oth.rf.up.up
    have Y2 : YS (fun _ => False) z 0 (upI (upI Jz 13 2 i (nI (1 + y0))) 13 3 i (nI (5 + p0))) ((upI (upI I 13 5 (i) (nI (1 + y0))) 13 5 (4 + i) (nI (5 + p0))) 13) := by
      rw [upI_13, upI_13]
      exact Y.it hi (by omega)
    obtain ⟨hk0, hv, S5⟩ := fin_it3 S hO hi (show 1 + y0 ≤ 15 by omega) (show 1 ≤ 5 + p0 by omega) (show 5 + p0 ≤ 99 by omega)
    rw [hpr i (Nat.le_refl _) hi] at hv
    have r1 : (upI (upI I 13 5 (i) (nI (1 + y0))) 13 5 (4 + i) (nI (5 + p0))) 13 5 i = nI (1 + y0) := by rw [upI_at, if_neg (by omega), upI_at, if_pos ⟨rfl, rfl, rfl⟩]
    have r2 : (upI (upI I 13 5 (i) (nI (1 + y0))) 13 5 (4 + i) (nI (5 + p0))) 13 5 (4 + i) = nI (5 + p0) := by rw [upI_at, if_pos ⟨rfl, rfl, rfl⟩]
    have e13 : cO0 (upI (upI I 13 5 (i) (nI (1 + y0))) 13 5 (4 + i) (nI (5 + p0))) (nI i) (nI (1 + y0)) (nI (5 + p0)) 13 = (upI (upI I 13 5 (i) (nI (1 + y0))) 13 5 (4 + i) (nI (5 + p0))) 13 := og_O0 13 (by decide)
    rw [← e13] at Y2
    have hz2 : ∀ f c, (f = 3 → c < i + 1 ∨ 4 ≤ c) → upI (upI Jz 13 2 i (nI (1 + y0))) 13 3 i (nI (5 + p0)) 13 f c = upI (upI (th J 0) 13 2 i (nI (1 + y0))) 13 3 i (nI (5 + p0)) 13 f c := fun f c hfc => by
      rw [upI_at _ 13 3, upI_at _ 13 3]
      by_cases q : 13 = 13 ∧ f = 3 ∧ c = i
      · rw [if_pos q, if_pos q]
      · rw [if_neg q, if_neg q, upI_at _ 13 2, upI_at _ 13 2, th_13]
        by_cases q2 : 13 = 13 ∧ f = 2 ∧ c = i
        · rw [if_pos q2, if_pos q2]
        · rw [if_neg q2, if_neg q2]
          exact hz f c (fun e => by have := hfc e; omega)
    have hp2 : ∀ k, i + 1 ≤ k → k < 4 → upI (upI (th J 0) 13 2 i (nI (1 + y0))) 13 3 i (nI (5 + p0)) 13 3 k = 10 := fun k h1 h2 => by
      rw [upI_at, if_neg (by omega), upI_at, if_neg (by omega), th_13]
      exact hpr k (by omega) h2
    clear e13
    generalize (upI (upI I 13 5 (i) (nI (1 + y0))) 13 5 (4 + i) (nI (5 + p0))) = I3 at hO hk0 hv S5 r1 r2 Y2 ⊢
    refine g_iload (pc' := 107) C dL_law_105 rfl rfl ?_
    refine g_if_eq (tgt := 137) (pc' := 110) C dL_law_107 (by decide) rfl (fun c2 => absurd c2 (by decide)) (fun c2 => ?_)
    refine g_aload_n (pc' := 111) C dL_law_110 rfl rfl ?_
    refine g_iload (pc' := 113) C dL_law_111 rfl rfl ?_
    refine g_aload (pc' := 115) C dL_law_113 rfl rfl ?_
    refine g_iload (pc' := 117) C dL_law_115 rfl rfl ?_
    refine g_iald (pc' := 118) C (i) rfl (by show _ < 14; omega) dL_law_117 (al13 rfl) rfl rfl rfl ?_
    rw [r1]
    refine g_aload (pc' := 120) C dL_law_118 rfl rfl ?_
    refine g_iconst (v := nI 4) (pc' := 121) C dL_law_120 (by decide) rfl ?_
    refine g_iload (pc' := 123) C dL_law_121 rfl rfl ?_
    refine g_iaddN (pc' := 124) C dL_law_123 rfl ?_
    refine g_iald (pc' := 125) C (4 + i) rfl (by show _ < 14; omega) dL_law_124 (al13 rfl) rfl rfl rfl ?_
    rw [r2]
    refine x_callV (pc' := 128) (mc := 1) (ms := 6) (As := [.int (nI i), .int (nI (1 + y0)), .int (nI (5 + p0))]) (S := []) (post := fun _ => pX (cK0 (nI i) (nI (1 + y0)) (nI (5 + p0))) (Kg K) z (some (.int (I3 1 (nI i).toNatClampNeg 1))) (cO0 I3 (nI i) (nI (1 + y0)) (nI (5 + p0))) P O) C hXK cv_L_119 (fun sz => m_X3_interpreter hfl (S.oth hO).X sz) dL_law_125 (by first | assumption | exact rfl | exact al13 rfl | exact Nat.le_of_ble_eq_true rfl) rfl rfl ⟨rfl, by decide +kernel, by decide +kernel, (by decide +kernel : (parseMethodDescriptor yX3_interpreter.desc).map (fun d => d.parameters.length) = some 3)⟩ ⟨⟨Nat.le_of_ble_eq_true rfl, Nat.le_of_ble_eq_true rfl⟩, rfl, rfl⟩ rfl (Nat.le_of_ble_eq_true rfl) ⟨show _ ≤ 645988 from by omega, show _ ≤ 7163735 from by omega⟩ rfl (fun E hE => ?_) (fun sz' v' g' z' I' P' O' hA' hp => ?_)
    · obtain ⟨q, hq, hkq⟩ := hE
      rw [hk0] at hkq
      subst hkq
      simp only [List.mem_cons, List.not_mem_nil, or_false, Prod.mk.injEq] at hq
      rcases hq with ⟨q, -⟩ | ⟨q, -⟩ <;> exact absurd q (by decide)
    obtain ⟨hkq, qv, qg, qz, qI, qP, qO⟩ := hp
    rw [qv, qg, qz, qI, qP, qO, Kw_self]
    clear hkq qv qg qz qI qP qO
    rw [hv, show (10 : Int32) = nI 10 from by decide]
    generalize cO0 I3 (nI i) (nI (1 + y0)) (nI (5 + p0)) = I2 at S5 Y2 ⊢
    refine g_bipush (v := nI 10) (pc' := 130) C dL_law_128 (by decide) rfl ?_
    refine g_icmp_neN (tgt := 137) (pc' := 133) C (by omega) (by omega) dL_law_130 (by decide) rfl (fun c3 => absurd rfl c3) (fun c3 => ?_)
    refine g_iconst (v := nI 1) (pc' := 134) C dL_law_133 (by decide) rfl ?_
    refine g_goto (tgt := 138) C dL_law_134 (by decide) ?_
    refine g_istore (pc' := 140) C dL_law_138 rfl rfl ?_
    refine g_iinc (pc' := 143) C dL_law_140 rfl (iiN _) rfl rfl ?_
    refine g_goto (tgt := 53) C dL_law_143 (by decide) ?_
    exact G_pick [0, 1, 2, 3, 4, 5, 6, 7, 8, 9, 10] rfl (ih (i + 1) I2 _ _ _ _ (by omega) S5 Y2 hz2 hp2 (by omega) (by omega))
end WLlaw
